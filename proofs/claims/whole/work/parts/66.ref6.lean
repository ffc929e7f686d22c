section REF6
variable {n : Nat} {K : wKd} {J : wJn} {L : wLn} {R : wRf}
theorem s_X11_feed0 (hy : Ly K R) {a b c d e : Int} {T : Nat} (hT : J 34 4 = T) (h2 : T ≤ 1000) (h : 1000 < T + 20) : S_X11_feed [.ref 34, .int (iI a), .int (iI b), .int (iI c), .int (iI d), .int (iI e)] n K (zw J) L R (Det (some (.int (iI (-1)))) n K (zw J) L R) := by
  refine Sp_intro [some (.ref 34), some (.int (iI a)), some (.int (iI b)), some (.int (iI c)), some (.int (iI d)), some (.int (iI e)), none, none] rfl rfl (Nat.le_of_ble_eq_true rfl) rfl ?_
  intro Γ C
  replace C : C_X11_feed Γ := C
  refine w_aload_n (pc2 := 1) C dX11_feed_0 rfl rfl ?_
  refine z_getI (pc2 := 4) C dX11_feed_1 fl_X11_52 (by first | exact hy.k _ | assumption) rfl ?_
  refine w_bipush (pc2 := 6) (v := iI 20) C dX11_feed_4 (by decide) rfl ?_
  refine z_iadd (pc2 := 7) C dX11_feed_6 rfl ?_
  refine w_sipush (pc2 := 10) (v := iI 1000) C dX11_feed_7 (by decide) rfl ?_
  -- at 10: .if_icmp .le 5
  rw [hT]
  refine z_icmp_le (pc2 := 13) (tgt := 15) C dX11_feed_10 (by decide) rfl (by omega) (by omega) (fun g1 => ?_) (fun g1 => ?_)
  · exact absurd g1 (by omega)
  · skip
    refine w_iconst (pc2 := 14) (v := iI (-1)) C dX11_feed_13 (by decide) rfl ?_
    -- at 14: .ireturn
    exact w_iret C dX11_feed_14 (by decide) (by decide) (⟨rfl, rfl, rfl, rfl, rfl, rfl⟩)
theorem s_X11_feed (hy : Ly K R) {a b c d e : Int} {T : Nat} (hT : J 34 4 = T) (h : T + 20 ≤ 1000) : S_X11_feed [.ref 34, .int (iI a), .int (iI b), .int (iI c), .int (iI d), .int (iI e)] n K (zw J) L R (Det (some (.int (iI ((T : Int) + 20)))) n K (zw (fdR J a b c d e T 20)) L R) := by
  refine Sp_intro [some (.ref 34), some (.int (iI a)), some (.int (iI b)), some (.int (iI c)), some (.int (iI d)), some (.int (iI e)), none, none] rfl rfl (Nat.le_of_ble_eq_true rfl) rfl ?_
  intro Γ C
  replace C : C_X11_feed Γ := C
  generalize hpost : (Det (some (.int (iI ((T : Int) + 20)))) n K (zw (fdR J a b c d e T 20)) L R) = post
  have key : ∀ (f i : Nat), i + f = 20 → wp Γ 0 0 (QQ Γ post) 18 [some (.ref 34), some (.int (iI a)), some (.int (iI b)), some (.int (iI c)), some (.int (iI d)), some (.int (iI e)), some (.int (iI i)), none] [] n K (zw (fdR J a b c d e T i)) L R := by
    intro f
    induction f with
    | zero =>
      intro i hi
      have h4 := fdR_4 (a := a) (b := b) (c := c) (d := d) (e := e) hT i
      refine w_iload (pc2 := 20) C dX11_feed_18 rfl rfl ?_
      refine w_bipush (pc2 := 22) (v := iI 20) C dX11_feed_20 (by decide) rfl ?_
      -- at 22: .if_icmp .ge 92
      refine z_icmp_ge (pc2 := 25) (tgt := 114) C dX11_feed_22 (by decide) rfl (by omega) (by omega) (fun g1 => ?_) (fun g1 => ?_)
      · skip
        refine w_aload_n (pc2 := 115) C dX11_feed_114 rfl rfl ?_
        refine z_getI (pc2 := 118) C dX11_feed_115 fl_X11_52 (by first | exact hy.k _ | assumption) rfl ?_
        -- at 118: .ireturn
        rw [h4]
        exact w_iret C dX11_feed_118 (by decide) (by decide) (by rw [← hpost]; exact DetI (by rw [show i = 20 by omega]; rfl) (by rw [show i = 20 by omega]))
      · exact absurd hi (by omega)
    | succ f ih =>
      intro i hi
      have h4 := fdR_4 (a := a) (b := b) (c := c) (d := d) (e := e) hT i
      have nx := ih (i + 1) (by omega)
      rw [fdR] at nx
      have fin : ∀ w : Int, w = fdW a b c d e i → wp Γ 0 0 (QQ Γ post) 71 [some (.ref 34), some (.int (iI a)), some (.int (iI b)), some (.int (iI c)), some (.int (iI d)), some (.int (iI e)), some (.int (iI i)), none] [.int (iI w)] n K (zw (fdR J a b c d e T i)) L R := by
        intro w hw
        subst hw
        refine w_istore (pc2 := 73) C dX11_feed_71 rfl (by decide) rfl rfl ?_
        try dsimp only [List.set]
        refine w_aload_n (pc2 := 74) C dX11_feed_73 rfl rfl ?_
        refine w_getR (pc2 := 77) C dX11_feed_74 fl_X11_21 (by first | exact hy.k _ | assumption) (by first | exact hy.r _ _ | assumption) rfl ?_
        refine w_aload_n (pc2 := 78) C dX11_feed_77 rfl rfl ?_
        refine z_getI (pc2 := 81) C dX11_feed_78 fl_X11_52 (by first | exact hy.k _ | assumption) rfl ?_
        refine w_iload (pc2 := 83) C dX11_feed_81 rfl rfl ?_
        refine w_bipush (pc2 := 85) (v := iI 8) C dX11_feed_83 (by decide) rfl ?_
        refine w_iconst (pc2 := 86) (v := iI 3) C dX11_feed_85 (by decide) rfl ?_
        refine w_iload (pc2 := 88) C dX11_feed_86 rfl rfl ?_
        refine w_iconst (pc2 := 89) (v := iI 4) C dX11_feed_88 (by decide) rfl ?_
        -- at 89: .irem
        refine z_irem (pc2 := 90) C dX11_feed_89 (by omega) rfl ?_
        refine z_isub (pc2 := 91) C dX11_feed_90 rfl ?_
        refine z_imul (pc2 := 92) C dX11_feed_91 rfl ?_
        refine w_ishr (pc2 := 93) C dX11_feed_92 rfl ?_
        refine w_sipush (pc2 := 96) (v := iI 255) C dX11_feed_93 (by decide) rfl ?_
        refine w_iand (pc2 := 97) C dX11_feed_96 rfl ?_
        -- at 97: .iastore
        rw [h4]
        have e5 : ((iI (fdW a b c d e i) >>> (iI (8 * (3 - (i : Int) % 4)) &&& 31)) &&& iI 255) = iI (fdB a b c d e i) := by unfold fdB; rw [iI_of]
        rw [e5]
        refine z_iast (pc2 := 98) (j := T + i) C dX11_feed_97 (by first | exact hy.k _ | assumption) (by omega) (by omega) (by decide) rfl ?_
        have e6 : up2 (fdR J a b c d e T i) 38 (T + i) (fdB a b c d e i) 34 4 = ((T + i : Nat) : Int) := by rw [up2_row (by decide)]; exact h4
        refine w_aload_n (pc2 := 99) C dX11_feed_98 rfl rfl ?_
        refine w_dup (pc2 := 100) C dX11_feed_99 rfl rfl ?_
        refine z_getI (pc2 := 103) C dX11_feed_100 fl_X11_52 (by first | exact hy.k _ | assumption) rfl ?_
        refine w_iconst (pc2 := 104) (v := iI 1) C dX11_feed_103 (by decide) rfl ?_
        refine z_iadd (pc2 := 105) C dX11_feed_104 rfl ?_
        refine z_putI (pc2 := 108) C dX11_feed_105 fl_X11_52 (by first | exact hy.k _ | assumption) (by rfl) (by rfl) rfl ?_
        refine w_iinc (pc2 := 111) C dX11_feed_108 rfl (iI_add _ _) rfl (by decide) rfl rfl ?_
        try dsimp only [List.set]
        refine w_goto (tgt := 18) C dX11_feed_111 (by decide) ?_
        -- at 18: .iload 6
        rw [e6, show (((T + i : Nat) : Int) + 1) = ((T + i + 1 : Nat) : Int) by omega]
        exact w_drop nx ⟨rfl, rfl, rfl, rfl, rfl, rfl, rfl, trivial⟩
      refine w_iload (pc2 := 20) C dX11_feed_18 rfl rfl ?_
      refine w_bipush (pc2 := 22) (v := iI 20) C dX11_feed_20 (by decide) rfl ?_
      -- at 22: .if_icmp .ge 92
      refine z_icmp_ge (pc2 := 25) (tgt := 114) C dX11_feed_22 (by decide) rfl (by omega) (by omega) (fun g1 => ?_) (fun g1 => ?_)
      · exact absurd hi (by omega)
      · skip
        refine w_iload (pc2 := 27) C dX11_feed_25 rfl rfl ?_
        refine w_iconst (pc2 := 28) (v := iI 4) C dX11_feed_27 (by decide) rfl ?_
        -- at 28: .if_icmp .ge 7
        refine z_icmp_ge (pc2 := 31) (tgt := 35) C dX11_feed_28 (by decide) rfl (by omega) (by omega) (fun g2 => ?_) (fun g2 => ?_)
        · skip
          refine w_iload (pc2 := 37) C dX11_feed_35 rfl rfl ?_
          refine w_bipush (pc2 := 39) (v := iI 8) C dX11_feed_37 (by decide) rfl ?_
          -- at 39: .if_icmp .ge 7
          refine z_icmp_ge (pc2 := 42) (tgt := 46) C dX11_feed_39 (by decide) rfl (by omega) (by omega) (fun g3 => ?_) (fun g3 => ?_)
          · skip
            refine w_iload (pc2 := 48) C dX11_feed_46 rfl rfl ?_
            refine w_bipush (pc2 := 50) (v := iI 12) C dX11_feed_48 (by decide) rfl ?_
            -- at 50: .if_icmp .ge 7
            refine z_icmp_ge (pc2 := 53) (tgt := 57) C dX11_feed_50 (by decide) rfl (by omega) (by omega) (fun g4 => ?_) (fun g4 => ?_)
            · skip
              refine w_iload (pc2 := 59) C dX11_feed_57 rfl rfl ?_
              refine w_bipush (pc2 := 61) (v := iI 16) C dX11_feed_59 (by decide) rfl ?_
              -- at 61: .if_icmp .ge 8
              refine z_icmp_ge (pc2 := 64) (tgt := 69) C dX11_feed_61 (by decide) rfl (by omega) (by omega) (fun g5 => ?_) (fun g5 => ?_)
              · skip
                refine w_iload (pc2 := 71) C dX11_feed_69 rfl rfl ?_
                -- at 71: .istore 7
                exact fin _ (by unfold fdW; rw [if_neg (by omega), if_neg (by omega), if_neg (by omega), if_neg (by omega)])
              · skip
                refine w_iload (pc2 := 66) C dX11_feed_64 rfl rfl ?_
                refine w_goto (tgt := 71) C dX11_feed_66 (by decide) ?_
                -- at 71: .istore 7
                exact fin _ (by unfold fdW; rw [if_neg (by omega), if_neg (by omega), if_neg (by omega), if_pos (by omega)])
            · skip
              refine w_iload_n (pc2 := 54) C dX11_feed_53 rfl rfl ?_
              refine w_goto (tgt := 71) C dX11_feed_54 (by decide) ?_
              -- at 71: .istore 7
              exact fin _ (by unfold fdW; rw [if_neg (by omega), if_neg (by omega), if_pos (by omega)])
          · skip
            refine w_iload_n (pc2 := 43) C dX11_feed_42 rfl rfl ?_
            refine w_goto (tgt := 71) C dX11_feed_43 (by decide) ?_
            -- at 71: .istore 7
            exact fin _ (by unfold fdW; rw [if_neg (by omega), if_pos (by omega)])
        · skip
          refine w_iload_n (pc2 := 32) C dX11_feed_31 rfl rfl ?_
          refine w_goto (tgt := 71) C dX11_feed_32 (by decide) ?_
          -- at 71: .istore 7
          exact fin _ (by unfold fdW; rw [if_pos (by omega)])
  refine w_aload_n (pc2 := 1) C dX11_feed_0 rfl rfl ?_
  refine z_getI (pc2 := 4) C dX11_feed_1 fl_X11_52 (by first | exact hy.k _ | assumption) rfl ?_
  refine w_bipush (pc2 := 6) (v := iI 20) C dX11_feed_4 (by decide) rfl ?_
  refine z_iadd (pc2 := 7) C dX11_feed_6 rfl ?_
  refine w_sipush (pc2 := 10) (v := iI 1000) C dX11_feed_7 (by decide) rfl ?_
  -- at 10: .if_icmp .le 5
  rw [hT]
  refine z_icmp_le (pc2 := 13) (tgt := 15) C dX11_feed_10 (by decide) rfl (by omega) (by omega) (fun g1 => ?_) (fun g1 => ?_)
  · skip
    refine w_iconst (pc2 := 16) (v := iI 0) C dX11_feed_15 (by decide) rfl ?_
    refine w_istore (pc2 := 18) C dX11_feed_16 rfl (by decide) rfl rfl ?_
    try dsimp only [List.set]
    -- at 18: .iload 6
    exact key 20 0 (by omega)
  · exact absurd h (by omega)
theorem s_X11_image0 {a : Int} (ha : R32 a) (h : ¬ (0 ≤ a ∧ a < 2)) : S_X11_image [.ref 34, .int (iI a)] n K (zw J) L R (Det (some (.int (iI 0))) n K (zw J) L R) := by
  refine Sp_intro [some (.ref 34), some (.int (iI a)), none] rfl rfl (Nat.le_of_ble_eq_true rfl) rfl ?_
  intro Γ C
  replace C : C_X11_image Γ := C
  refine w_iload_n (pc2 := 1) C dX11_image_0 rfl rfl ?_
  -- at 1: .ifCond .lt 8
  refine z_if_lt (pc2 := 4) (tgt := 9) C dX11_image_1 (by decide) rfl (by omega) (fun g1 => ?_) (fun g1 => ?_)
  · skip
    refine w_iconst (pc2 := 10) (v := iI 0) C dX11_image_9 (by decide) rfl ?_
    -- at 10: .ireturn
    exact w_zret C dX11_image_10 (Or.inl rfl) (by decide) (by decide) (DetI rfl rfl)
  · skip
    refine w_iload_n (pc2 := 5) C dX11_image_4 rfl rfl ?_
    refine w_iconst (pc2 := 6) (v := iI 1) C dX11_image_5 (by decide) rfl ?_
    -- at 6: .if_icmp .le 5
    refine z_icmp_le (pc2 := 9) (tgt := 11) C dX11_image_6 (by decide) rfl (by omega) (by omega) (fun g2 => ?_) (fun g2 => ?_)
    · exact absurd h (by omega)
    · skip
      refine w_iconst (pc2 := 10) (v := iI 0) C dX11_image_9 (by decide) rfl ?_
      -- at 10: .ireturn
      exact w_zret C dX11_image_10 (Or.inl rfl) (by decide) (by decide) (DetI rfl rfl)
theorem s_X11_image (hy : Ly K R) {p : Nat} (hp : p < 2) : S_X11_image [.ref 34, .int (iI p)] n K (zw J) L R (Det (some (.int (iI 1))) n K (zw (up2 (cpR J 0 (2296 * (p + 1)) 2296) 37 p 1)) (cpRL L 0 (24 * (p + 1)) 24) R) := by
  refine Sp_intro [some (.ref 34), some (.int (iI p)), none] rfl rfl (Nat.le_of_ble_eq_true rfl) rfl ?_
  intro Γ C
  replace C : C_X11_image Γ := C
  generalize hpost : (Det (some (.int (iI 1))) n K (zw (up2 (cpR J 0 (2296 * (p + 1)) 2296) 37 p 1)) (cpRL L 0 (24 * (p + 1)) 24) R) = post
  have key2 : ∀ (d j : Nat), j + d = 24 → wp Γ 0 0 (QQ Γ post) 48 [some (.ref 34), some (.int (iI p)), some (.int (iI j))] [] n K (zw (cpR J 0 (2296 * (p + 1)) 2296)) (cpRL L 0 (24 * (p + 1)) j) R := by
    intro d
    induction d with
    | zero =>
      intro j hj
      refine w_iload_n (pc2 := 49) C dX11_image_48 rfl rfl ?_
      refine w_bipush (pc2 := 51) (v := iI 24) C dX11_image_49 (by decide) rfl ?_
      -- at 51: .if_icmp .ge 28
      refine z_icmp_ge (pc2 := 54) (tgt := 79) C dX11_image_51 (by decide) rfl (by omega) (by omega) (fun g1 => ?_) (fun g1 => ?_)
      · skip
        refine w_aload_n (pc2 := 80) C dX11_image_79 rfl rfl ?_
        refine w_getR (pc2 := 83) C dX11_image_80 fl_X11_17 (by first | exact hy.k _ | assumption) (by first | exact hy.r _ _ | assumption) rfl ?_
        refine w_iload_n (pc2 := 84) C dX11_image_83 rfl rfl ?_
        refine w_iconst (pc2 := 85) (v := iI 1) C dX11_image_84 (by decide) rfl ?_
        -- at 85: .bastore
        refine z_zast (pc2 := 86) (j := p) C dX11_image_85 (by first | exact hy.k _ | assumption) (by omega) (by omega) (by decide) rfl ?_
        refine w_iconst (pc2 := 87) (v := iI 1) C dX11_image_86 (by decide) rfl ?_
        -- at 87: .ireturn
        exact w_zret C dX11_image_87 (Or.inr rfl) (by decide) (by decide) (by rw [← hpost, show j = 24 by omega]; exact ⟨rfl, rfl, rfl, rfl, rfl, rfl⟩)
      · exact absurd hj (by omega)
    | succ d ih =>
      intro j hj
      have hs : cpRL L 0 (24 * (p + 1)) j 36 j = L 36 (0 + j) := by
        have := cpRL_src (L := L) (x := 0) (y := 24 * (p + 1)) (j := j) (by omega)
        rw [Nat.zero_add] at this ⊢
        exact this
      refine w_iload_n (pc2 := 49) C dX11_image_48 rfl rfl ?_
      refine w_bipush (pc2 := 51) (v := iI 24) C dX11_image_49 (by decide) rfl ?_
      -- at 51: .if_icmp .ge 28
      refine z_icmp_ge (pc2 := 54) (tgt := 79) C dX11_image_51 (by decide) rfl (by omega) (by omega) (fun g1 => ?_) (fun g1 => ?_)
      · exact absurd hj (by omega)
      · skip
        refine w_aload_n (pc2 := 55) C dX11_image_54 rfl rfl ?_
        refine w_getR (pc2 := 58) C dX11_image_55 fl_X11_13 (by first | exact hy.k _ | assumption) (by first | exact hy.r _ _ | assumption) rfl ?_
        refine w_bipush (pc2 := 60) (v := iI 24) C dX11_image_58 (by decide) rfl ?_
        refine w_iload_n (pc2 := 61) C dX11_image_60 rfl rfl ?_
        refine w_iconst (pc2 := 62) (v := iI 1) C dX11_image_61 (by decide) rfl ?_
        refine z_iadd (pc2 := 63) C dX11_image_62 rfl ?_
        refine z_imul (pc2 := 64) C dX11_image_63 rfl ?_
        refine w_iload_n (pc2 := 65) C dX11_image_64 rfl rfl ?_
        refine z_iadd (pc2 := 66) C dX11_image_65 rfl ?_
        refine w_aload_n (pc2 := 67) C dX11_image_66 rfl rfl ?_
        refine w_getR (pc2 := 70) C dX11_image_67 fl_X11_13 (by first | exact hy.k _ | assumption) (by first | exact hy.r _ _ | assumption) rfl ?_
        refine w_iload_n (pc2 := 71) C dX11_image_70 rfl rfl ?_
        -- at 71: .laload
        refine z_lald (pc2 := 72) (j := j) C dX11_image_71 (by first | exact hy.k _ | assumption) (by omega) (by omega) (by decide) rfl ?_
        rw [hs]
        refine z_last (pc2 := 73) (j := 24 * (p + 1) + j) C dX11_image_72 (by first | exact hy.k _ | assumption) (by omega) (by omega) (by decide) rfl ?_
        rw [cpRL_up]
        refine w_iinc (pc2 := 76) C dX11_image_73 rfl (iI_add _ _) rfl (by decide) rfl rfl ?_
        try dsimp only [List.set]
        refine w_goto (tgt := 48) C dX11_image_76 (by decide) ?_
        -- at 48: .iload_n 2
        exact ih (j + 1) (by omega)
  have key1 : ∀ (d j : Nat), j + d = 2296 → wp Γ 0 0 (QQ Γ post) 13 [some (.ref 34), some (.int (iI p)), some (.int (iI j))] [] n K (zw (cpR J 0 (2296 * (p + 1)) j)) L R := by
    intro d
    induction d with
    | zero =>
      intro j hj
      refine w_iload_n (pc2 := 14) C dX11_image_13 rfl rfl ?_
      refine w_sipush (pc2 := 17) (v := iI 2296) C dX11_image_14 (by decide) rfl ?_
      -- at 17: .if_icmp .ge 29
      refine z_icmp_ge (pc2 := 20) (tgt := 46) C dX11_image_17 (by decide) rfl (by omega) (by omega) (fun g1 => ?_) (fun g1 => ?_)
      · skip
        refine w_iconst (pc2 := 47) (v := iI 0) C dX11_image_46 (by decide) rfl ?_
        refine w_istore_n (pc2 := 48) C dX11_image_47 rfl (by decide) rfl rfl ?_
        try dsimp only [List.set]
        -- at 48: .iload_n 2
        rw [show j = 2296 by omega]
        have h0 := key2 24 0 (by omega)
        rw [cpRL_0] at h0
        exact h0
      · exact absurd hj (by omega)
    | succ d ih =>
      intro j hj
      have hs : cpR J 0 (2296 * (p + 1)) j 35 j = J 35 (0 + j) := by
        have := cpR_src (J := J) (x := 0) (y := 2296 * (p + 1)) (j := j) (by omega) (by omega)
        rw [Nat.zero_add] at this ⊢
        exact this
      refine w_iload_n (pc2 := 14) C dX11_image_13 rfl rfl ?_
      refine w_sipush (pc2 := 17) (v := iI 2296) C dX11_image_14 (by decide) rfl ?_
      -- at 17: .if_icmp .ge 29
      refine z_icmp_ge (pc2 := 20) (tgt := 46) C dX11_image_17 (by decide) rfl (by omega) (by omega) (fun g1 => ?_) (fun g1 => ?_)
      · exact absurd hj (by omega)
      · skip
        refine w_aload_n (pc2 := 21) C dX11_image_20 rfl rfl ?_
        refine w_getR (pc2 := 24) C dX11_image_21 fl_X11_7 (by first | exact hy.k _ | assumption) (by first | exact hy.r _ _ | assumption) rfl ?_
        refine w_sipush (pc2 := 27) (v := iI 2296) C dX11_image_24 (by decide) rfl ?_
        refine w_iload_n (pc2 := 28) C dX11_image_27 rfl rfl ?_
        refine w_iconst (pc2 := 29) (v := iI 1) C dX11_image_28 (by decide) rfl ?_
        refine z_iadd (pc2 := 30) C dX11_image_29 rfl ?_
        refine z_imul (pc2 := 31) C dX11_image_30 rfl ?_
        refine w_iload_n (pc2 := 32) C dX11_image_31 rfl rfl ?_
        refine z_iadd (pc2 := 33) C dX11_image_32 rfl ?_
        refine w_aload_n (pc2 := 34) C dX11_image_33 rfl rfl ?_
        refine w_getR (pc2 := 37) C dX11_image_34 fl_X11_7 (by first | exact hy.k _ | assumption) (by first | exact hy.r _ _ | assumption) rfl ?_
        refine w_iload_n (pc2 := 38) C dX11_image_37 rfl rfl ?_
        -- at 38: .iaload
        refine z_iald (pc2 := 39) (j := j) C dX11_image_38 (by first | exact hy.k _ | assumption) (by omega) (by omega) (by decide) rfl ?_
        rw [hs]
        refine z_iast (pc2 := 40) (j := 2296 * (p + 1) + j) C dX11_image_39 (by first | exact hy.k _ | assumption) (by omega) (by omega) (by decide) rfl ?_
        rw [cpR_up]
        refine w_iinc (pc2 := 43) C dX11_image_40 rfl (iI_add _ _) rfl (by decide) rfl rfl ?_
        try dsimp only [List.set]
        refine w_goto (tgt := 13) C dX11_image_43 (by decide) ?_
        -- at 13: .iload_n 2
        exact ih (j + 1) (by omega)
  refine w_iload_n (pc2 := 1) C dX11_image_0 rfl rfl ?_
  -- at 1: .ifCond .lt 8
  refine z_if_lt (pc2 := 4) (tgt := 9) C dX11_image_1 (by decide) rfl (by omega) (fun g1 => ?_) (fun g1 => ?_)
  · exact absurd g1 (by omega)
  · skip
    refine w_iload_n (pc2 := 5) C dX11_image_4 rfl rfl ?_
    refine w_iconst (pc2 := 6) (v := iI 1) C dX11_image_5 (by decide) rfl ?_
    -- at 6: .if_icmp .le 5
    refine z_icmp_le (pc2 := 9) (tgt := 11) C dX11_image_6 (by decide) rfl (by omega) (by omega) (fun g2 => ?_) (fun g2 => ?_)
    · skip
      refine w_iconst (pc2 := 12) (v := iI 0) C dX11_image_11 (by decide) rfl ?_
      refine w_istore_n (pc2 := 13) C dX11_image_12 rfl (by decide) rfl rfl ?_
      try dsimp only [List.set]
      -- at 13: .iload_n 2
      have h0 := key1 2296 0 (by omega)
      rw [cpR_0] at h0
      exact h0
    · exact absurd hp (by omega)
theorem s_X11_back0 (hy : Ly K R) {a : Int} (ha : R32 a) (h : ¬ (0 ≤ a ∧ a < 2) ∨ J 37 a.toNat = 0) : S_X11_back [.ref 34, .int (iI a)] n K (zw J) L R (Det (some (.int (iI 0))) n K (zw J) L R) := by
  refine Sp_intro [some (.ref 34), some (.int (iI a)), none] rfl rfl (Nat.le_of_ble_eq_true rfl) rfl ?_
  intro Γ C
  replace C : C_X11_back Γ := C
  refine w_iload_n (pc2 := 1) C dX11_back_0 rfl rfl ?_
  -- at 1: .ifCond .lt 17
  refine z_if_lt (pc2 := 4) (tgt := 18) C dX11_back_1 (by decide) rfl (by omega) (fun g1 => ?_) (fun g1 => ?_)
  · skip
    refine w_iconst (pc2 := 19) (v := iI 0) C dX11_back_18 (by decide) rfl ?_
    -- at 19: .ireturn
    exact w_zret C dX11_back_19 (Or.inl rfl) (by decide) (by decide) (DetI rfl rfl)
  · skip
    refine w_iload_n (pc2 := 5) C dX11_back_4 rfl rfl ?_
    refine w_iconst (pc2 := 6) (v := iI 1) C dX11_back_5 (by decide) rfl ?_
    -- at 6: .if_icmp .gt 12
    refine z_icmp_gt (pc2 := 9) (tgt := 18) C dX11_back_6 (by decide) rfl (by omega) (by omega) (fun g2 => ?_) (fun g2 => ?_)
    · skip
      refine w_iconst (pc2 := 19) (v := iI 0) C dX11_back_18 (by decide) rfl ?_
      -- at 19: .ireturn
      exact w_zret C dX11_back_19 (Or.inl rfl) (by decide) (by decide) (DetI rfl rfl)
    · have h0 : J 37 a.toNat = 0 := by
        rcases h with q | q
        · omega
        · exact q
      refine w_aload_n (pc2 := 10) C dX11_back_9 rfl rfl ?_
      refine w_getR (pc2 := 13) C dX11_back_10 fl_X11_17 (by first | exact hy.k _ | assumption) (by first | exact hy.r _ _ | assumption) rfl ?_
      refine w_iload_n (pc2 := 14) C dX11_back_13 rfl rfl ?_
      -- at 14: .baload
      refine z_zald (pc2 := 15) (j := a.toNat) C dX11_back_14 (by first | exact hy.k _ | assumption) (by omega) (by omega) (by decide) rfl ?_
      rw [h0]
      refine z_if_ne (pc2 := 18) (tgt := 20) C dX11_back_15 (by decide) rfl (by omega) (fun g3 => ?_) (fun g3 => ?_)
      · exact absurd rfl g3
      · skip
        refine w_iconst (pc2 := 19) (v := iI 0) C dX11_back_18 (by decide) rfl ?_
        -- at 19: .ireturn
        exact w_zret C dX11_back_19 (Or.inl rfl) (by decide) (by decide) (DetI rfl rfl)
theorem s_X11_back (hy : Ly K R) {p : Nat} (hp : p < 2) (hk : J 37 p = 1) : S_X11_back [.ref 34, .int (iI p)] n K (zw J) L R (Det (some (.int (iI 1))) n K (zw (cpR J (2296 * (p + 1)) 0 2296)) (cpRL L (24 * (p + 1)) 0 24) R) := by
  refine Sp_intro [some (.ref 34), some (.int (iI p)), none] rfl rfl (Nat.le_of_ble_eq_true rfl) rfl ?_
  intro Γ C
  replace C : C_X11_back Γ := C
  generalize hpost : (Det (some (.int (iI 1))) n K (zw (cpR J (2296 * (p + 1)) 0 2296)) (cpRL L (24 * (p + 1)) 0 24) R) = post
  have key2 : ∀ (d j : Nat), j + d = 24 → wp Γ 0 0 (QQ Γ post) 57 [some (.ref 34), some (.int (iI p)), some (.int (iI j))] [] n K (zw (cpR J (2296 * (p + 1)) 0 2296)) (cpRL L (24 * (p + 1)) 0 j) R := by
    intro d
    induction d with
    | zero =>
      intro j hj
      refine w_iload_n (pc2 := 58) C dX11_back_57 rfl rfl ?_
      refine w_bipush (pc2 := 60) (v := iI 24) C dX11_back_58 (by decide) rfl ?_
      -- at 60: .if_icmp .ge 28
      refine z_icmp_ge (pc2 := 63) (tgt := 88) C dX11_back_60 (by decide) rfl (by omega) (by omega) (fun g1 => ?_) (fun g1 => ?_)
      · skip
        refine w_iconst (pc2 := 89) (v := iI 1) C dX11_back_88 (by decide) rfl ?_
        -- at 89: .ireturn
        exact w_zret C dX11_back_89 (Or.inr rfl) (by decide) (by decide) (by rw [← hpost, show j = 24 by omega]; exact ⟨rfl, rfl, rfl, rfl, rfl, rfl⟩)
      · exact absurd hj (by omega)
    | succ d ih =>
      intro j hj
      have hs : cpRL L (24 * (p + 1)) 0 j 36 (24 * (p + 1) + j) = L 36 (24 * (p + 1) + j) := cpRL_src (by omega)
      have hu := cpRL_up L (24 * (p + 1)) 0 j
      rw [Nat.zero_add] at hu
      refine w_iload_n (pc2 := 58) C dX11_back_57 rfl rfl ?_
      refine w_bipush (pc2 := 60) (v := iI 24) C dX11_back_58 (by decide) rfl ?_
      -- at 60: .if_icmp .ge 28
      refine z_icmp_ge (pc2 := 63) (tgt := 88) C dX11_back_60 (by decide) rfl (by omega) (by omega) (fun g1 => ?_) (fun g1 => ?_)
      · exact absurd hj (by omega)
      · skip
        refine w_aload_n (pc2 := 64) C dX11_back_63 rfl rfl ?_
        refine w_getR (pc2 := 67) C dX11_back_64 fl_X11_13 (by first | exact hy.k _ | assumption) (by first | exact hy.r _ _ | assumption) rfl ?_
        refine w_iload_n (pc2 := 68) C dX11_back_67 rfl rfl ?_
        refine w_aload_n (pc2 := 69) C dX11_back_68 rfl rfl ?_
        refine w_getR (pc2 := 72) C dX11_back_69 fl_X11_13 (by first | exact hy.k _ | assumption) (by first | exact hy.r _ _ | assumption) rfl ?_
        refine w_bipush (pc2 := 74) (v := iI 24) C dX11_back_72 (by decide) rfl ?_
        refine w_iload_n (pc2 := 75) C dX11_back_74 rfl rfl ?_
        refine w_iconst (pc2 := 76) (v := iI 1) C dX11_back_75 (by decide) rfl ?_
        refine z_iadd (pc2 := 77) C dX11_back_76 rfl ?_
        refine z_imul (pc2 := 78) C dX11_back_77 rfl ?_
        refine w_iload_n (pc2 := 79) C dX11_back_78 rfl rfl ?_
        refine z_iadd (pc2 := 80) C dX11_back_79 rfl ?_
        -- at 80: .laload
        refine z_lald (pc2 := 81) (j := 24 * (p + 1) + j) C dX11_back_80 (by first | exact hy.k _ | assumption) (by omega) (by omega) (by decide) rfl ?_
        rw [hs]
        refine z_last (pc2 := 82) (j := j) C dX11_back_81 (by first | exact hy.k _ | assumption) (by omega) (by omega) (by decide) rfl ?_
        rw [hu]
        refine w_iinc (pc2 := 85) C dX11_back_82 rfl (iI_add _ _) rfl (by decide) rfl rfl ?_
        try dsimp only [List.set]
        refine w_goto (tgt := 57) C dX11_back_85 (by decide) ?_
        -- at 57: .iload_n 2
        exact ih (j + 1) (by omega)
  have key1 : ∀ (d j : Nat), j + d = 2296 → wp Γ 0 0 (QQ Γ post) 22 [some (.ref 34), some (.int (iI p)), some (.int (iI j))] [] n K (zw (cpR J (2296 * (p + 1)) 0 j)) L R := by
    intro d
    induction d with
    | zero =>
      intro j hj
      refine w_iload_n (pc2 := 23) C dX11_back_22 rfl rfl ?_
      refine w_sipush (pc2 := 26) (v := iI 2296) C dX11_back_23 (by decide) rfl ?_
      -- at 26: .if_icmp .ge 29
      refine z_icmp_ge (pc2 := 29) (tgt := 55) C dX11_back_26 (by decide) rfl (by omega) (by omega) (fun g1 => ?_) (fun g1 => ?_)
      · skip
        refine w_iconst (pc2 := 56) (v := iI 0) C dX11_back_55 (by decide) rfl ?_
        refine w_istore_n (pc2 := 57) C dX11_back_56 rfl (by decide) rfl rfl ?_
        try dsimp only [List.set]
        -- at 57: .iload_n 2
        rw [show j = 2296 by omega]
        have h0 := key2 24 0 (by omega)
        rw [cpRL_0] at h0
        exact h0
      · exact absurd hj (by omega)
    | succ d ih =>
      intro j hj
      have hs : cpR J (2296 * (p + 1)) 0 j 35 (2296 * (p + 1) + j) = J 35 (2296 * (p + 1) + j) := cpR_src (by omega) (by omega)
      have hu := cpR_up J (2296 * (p + 1)) 0 j
      rw [Nat.zero_add] at hu
      refine w_iload_n (pc2 := 23) C dX11_back_22 rfl rfl ?_
      refine w_sipush (pc2 := 26) (v := iI 2296) C dX11_back_23 (by decide) rfl ?_
      -- at 26: .if_icmp .ge 29
      refine z_icmp_ge (pc2 := 29) (tgt := 55) C dX11_back_26 (by decide) rfl (by omega) (by omega) (fun g1 => ?_) (fun g1 => ?_)
      · exact absurd hj (by omega)
      · skip
        refine w_aload_n (pc2 := 30) C dX11_back_29 rfl rfl ?_
        refine w_getR (pc2 := 33) C dX11_back_30 fl_X11_7 (by first | exact hy.k _ | assumption) (by first | exact hy.r _ _ | assumption) rfl ?_
        refine w_iload_n (pc2 := 34) C dX11_back_33 rfl rfl ?_
        refine w_aload_n (pc2 := 35) C dX11_back_34 rfl rfl ?_
        refine w_getR (pc2 := 38) C dX11_back_35 fl_X11_7 (by first | exact hy.k _ | assumption) (by first | exact hy.r _ _ | assumption) rfl ?_
        refine w_sipush (pc2 := 41) (v := iI 2296) C dX11_back_38 (by decide) rfl ?_
        refine w_iload_n (pc2 := 42) C dX11_back_41 rfl rfl ?_
        refine w_iconst (pc2 := 43) (v := iI 1) C dX11_back_42 (by decide) rfl ?_
        refine z_iadd (pc2 := 44) C dX11_back_43 rfl ?_
        refine z_imul (pc2 := 45) C dX11_back_44 rfl ?_
        refine w_iload_n (pc2 := 46) C dX11_back_45 rfl rfl ?_
        refine z_iadd (pc2 := 47) C dX11_back_46 rfl ?_
        -- at 47: .iaload
        refine z_iald (pc2 := 48) (j := 2296 * (p + 1) + j) C dX11_back_47 (by first | exact hy.k _ | assumption) (by omega) (by omega) (by decide) rfl ?_
        rw [hs]
        refine z_iast (pc2 := 49) (j := j) C dX11_back_48 (by first | exact hy.k _ | assumption) (by omega) (by omega) (by decide) rfl ?_
        rw [hu]
        refine w_iinc (pc2 := 52) C dX11_back_49 rfl (iI_add _ _) rfl (by decide) rfl rfl ?_
        try dsimp only [List.set]
        refine w_goto (tgt := 22) C dX11_back_52 (by decide) ?_
        -- at 22: .iload_n 2
        exact ih (j + 1) (by omega)
  refine w_iload_n (pc2 := 1) C dX11_back_0 rfl rfl ?_
  -- at 1: .ifCond .lt 17
  refine z_if_lt (pc2 := 4) (tgt := 18) C dX11_back_1 (by decide) rfl (by omega) (fun g1 => ?_) (fun g1 => ?_)
  · exact absurd g1 (by omega)
  · skip
    refine w_iload_n (pc2 := 5) C dX11_back_4 rfl rfl ?_
    refine w_iconst (pc2 := 6) (v := iI 1) C dX11_back_5 (by decide) rfl ?_
    -- at 6: .if_icmp .gt 12
    refine z_icmp_gt (pc2 := 9) (tgt := 18) C dX11_back_6 (by decide) rfl (by omega) (by omega) (fun g2 => ?_) (fun g2 => ?_)
    · exact absurd hp (by omega)
    · skip
      refine w_aload_n (pc2 := 10) C dX11_back_9 rfl rfl ?_
      refine w_getR (pc2 := 13) C dX11_back_10 fl_X11_17 (by first | exact hy.k _ | assumption) (by first | exact hy.r _ _ | assumption) rfl ?_
      refine w_iload_n (pc2 := 14) C dX11_back_13 rfl rfl ?_
      -- at 14: .baload
      refine z_zald (pc2 := 15) (j := p) C dX11_back_14 (by first | exact hy.k _ | assumption) (by omega) (by omega) (by decide) rfl ?_
      rw [hk]
      refine z_if_ne (pc2 := 18) (tgt := 20) C dX11_back_15 (by decide) rfl (by omega) (fun g3 => ?_) (fun g3 => ?_)
      · skip
        refine w_iconst (pc2 := 21) (v := iI 0) C dX11_back_20 (by decide) rfl ?_
        refine w_istore_n (pc2 := 22) C dX11_back_21 rfl (by decide) rfl rfl ?_
        try dsimp only [List.set]
        -- at 22: .iload_n 2
        have h0 := key1 2296 0 (by omega)
        rw [cpR_0] at h0
        exact h0
      · exact absurd g3 (by decide)
end REF6
