/-! ===== the reference: quarrels, play, feed, images ===== -/
def pfR (L : wLn) (bl : Nat → Int) (who : Nat → Nat) : Nat → wLn
  | 0 => L
  | k + 1 => if who k = 2 then pfR L bl who k else up2 (pfR L bl who k) 36 (bl k).toNat (pfR L bl who k 36 (bl k).toNat + 1)
def pbR (L : wLn) (m : Nat) : Nat → wLn
  | 0 => L
  | b + 1 => if m.testBit b = true then up2 (pbR L m b) 36 b (pbR L m b 36 b + 1) else pbR L m b
def psR (L : wLn) (pm : Nat → Nat) : Nat → wLn
  | 0 => L
  | s + 1 => pbR (psR L pm s) (pm s) 24
/-- what the reference feeds as its i-th sign -/
def fdW (a b c d e : Int) (i : Nat) : Int := if i < 4 then a else if i < 8 then b else if i < 12 then c else if i < 16 then d else e
def fdB (a b c d e : Int) (i : Nat) : Int := ((iI (fdW a b c d e i) >>> (iI (8 * (3 - (i : Int) % 4)) &&& 31)) &&& iI 255).toInt
def fdR (J : wJn) (a b c d e : Int) (T : Nat) : Nat → wJn
  | 0 => J
  | i + 1 => up2 (up2 (fdR J a b c d e T i) 38 (T + i) (fdB a b c d e i)) 34 4 ((T + i + 1 : Nat) : Int)
theorem fdR_4 {J : wJn} {a b c d e : Int} {T : Nat} (h : J 34 4 = T) : ∀ i, fdR J a b c d e T i 34 4 = ((T + i : Nat) : Int)
  | 0 => h
  | i + 1 => by rw [fdR, up2_s]; rfl
/-- copies of numbers -/
def cpR (J : wJn) (x y : Nat) (j : Nat) : wJn := fun a k => if a = 35 ∧ y ≤ k ∧ k < y + j then J 35 (x + (k - y)) else J a k
def cpRL (L : wLn) (x y : Nat) (j : Nat) : wLn := fun a k => if a = 36 ∧ y ≤ k ∧ k < y + j then L 36 (x + (k - y)) else L a k
theorem cpR_0 (J : wJn) (x y : Nat) : cpR J x y 0 = J := by
  funext a k
  simp only [cpR]
  rw [if_neg (by omega)]
theorem cpRL_0 (L : wLn) (x y : Nat) : cpRL L x y 0 = L := by
  funext a k
  simp only [cpRL]
  rw [if_neg (by omega)]
theorem cpR_up (J : wJn) (x y j : Nat) : up2 (cpR J x y j) 35 (y + j) (J 35 (x + j)) = cpR J x y (j + 1) := by
  funext a k
  simp only [cpR, up2]
  by_cases h : a = 35 ∧ k = y + j
  · rw [if_pos h, if_pos (by omega), h.2, show y + j - y = j by omega]
  · rw [if_neg h]
    by_cases h2 : a = 35 ∧ y ≤ k ∧ k < y + j
    · rw [if_pos h2, if_pos (by omega)]
    · rw [if_neg h2, if_neg (by omega)]
theorem cpRL_up (L : wLn) (x y j : Nat) : up2 (cpRL L x y j) 36 (y + j) (L 36 (x + j)) = cpRL L x y (j + 1) := by
  funext a k
  simp only [cpRL, up2]
  by_cases h : a = 36 ∧ k = y + j
  · rw [if_pos h, if_pos (by omega), h.2, show y + j - y = j by omega]
  · rw [if_neg h]
    by_cases h2 : a = 36 ∧ y ≤ k ∧ k < y + j
    · rw [if_pos h2, if_pos (by omega)]
    · rw [if_neg h2, if_neg (by omega)]
theorem cpR_src {J : wJn} {x y j : Nat} (h : x + j < y ∨ y + j ≤ x + j) (h2 : ¬ (y ≤ x + j ∧ x + j < y + j)) : cpR J x y j 35 (x + j) = J 35 (x + j) := by
  unfold cpR
  rw [if_neg (fun q => h2 q.2)]
theorem cpRL_src {L : wLn} {x y j : Nat} (h2 : ¬ (y ≤ x + j ∧ x + j < y + j)) : cpRL L x y j 36 (x + j) = L 36 (x + j) := by
  unfold cpRL
  rw [if_neg (fun q => h2 q.2)]
section REF5
variable {n : Nat} {K : wKd} {J : wJn} {L : wLn} {R : wRf}
theorem s_X11_quarrels (hy : Ly K R) {c : Nat} (hm : MuR J c) (ht : TaR J) : S_X11_quarrels [.ref 34] n K (zw J) L R (Det (some (.int (iI (qouR J c c)))) n K (zw J) L R) := by
  have hc2 := hm.2.1
  refine Sp_intro [some (.ref 34), none, none, none, none, none, none] rfl rfl (Nat.le_of_ble_eq_true rfl) rfl ?_
  intro Γ C
  replace C : C_X11_quarrels Γ := C
  generalize hpost : (Det (some (.int (iI (qouR J c c)))) n K (zw J) L R) = post
  have key : ∀ (d a : Nat), a + d = c → wp Γ 0 0 (QQ Γ post) 4 [some (.ref 34), some (.int (iI (qouR J c a))), some (.int (iI a)), none, none, none, none] [] n K (zw J) L R := by
    intro d
    induction d with
    | zero =>
      intro a ha
      refine w_iload_n (pc2 := 5) C dX11_quarrels_4 rfl rfl ?_
      refine w_aload_n (pc2 := 6) C dX11_quarrels_5 rfl rfl ?_
      refine w_getR (pc2 := 9) C dX11_quarrels_6 fl_X11_7 (by first | exact hy.k _ | assumption) (by first | exact hy.r _ _ | assumption) rfl ?_
      refine w_iconst (pc2 := 10) (v := iI 0) C dX11_quarrels_9 (by decide) rfl ?_
      -- at 10: .iaload
      refine z_iald (pc2 := 11) (j := 0) C dX11_quarrels_10 (by first | exact hy.k _ | assumption) (by omega) (by omega) (by decide) rfl ?_
      rw [hm.1]
      refine z_icmp_ge (pc2 := 14) (tgt := 174) C dX11_quarrels_11 (by decide) rfl (by omega) (by omega) (fun g1 => ?_) (fun g1 => ?_)
      · skip
        refine w_iload_n (pc2 := 175) C dX11_quarrels_174 rfl rfl ?_
        -- at 175: .ireturn
        exact w_iret C dX11_quarrels_175 (by decide) (by decide) (by rw [← hpost]; exact DetI (by rw [show a = c by omega]) rfl)
      · exact absurd ha (by omega)
    | succ d ih =>
      intro a ha
      have ga := hm.2.2 a (by omega)
      have hsa := s_X11_sounds (n := n) (L := L) (a := (a : Int)) hy hm ht (by omega)
      rw [if_pos (by omega), show ((a : Int).toNat) = a from rfl] at hsa
      have sa := sndR_bd hm ht (show a < c by omega)
      have inn : ∀ (e j : Nat), j + e = c → a < j → wp Γ 0 0 (QQ Γ post) 18 [some (.ref 34), some (.int (iI (qouR J c a + qinR J c a j))), some (.int (iI a)), some (.int (iI j)), none, none, none] [] n K (zw J) L R := by
        intro e
        induction e with
        | zero =>
          intro j hj haj
          refine w_iload_n (pc2 := 19) C dX11_quarrels_18 rfl rfl ?_
          refine w_aload_n (pc2 := 20) C dX11_quarrels_19 rfl rfl ?_
          refine w_getR (pc2 := 23) C dX11_quarrels_20 fl_X11_7 (by first | exact hy.k _ | assumption) (by first | exact hy.r _ _ | assumption) rfl ?_
          refine w_iconst (pc2 := 24) (v := iI 0) C dX11_quarrels_23 (by decide) rfl ?_
          -- at 24: .iaload
          refine z_iald (pc2 := 25) (j := 0) C dX11_quarrels_24 (by first | exact hy.k _ | assumption) (by omega) (by omega) (by decide) rfl ?_
          rw [hm.1]
          refine z_icmp_ge (pc2 := 28) (tgt := 168) C dX11_quarrels_25 (by decide) rfl (by omega) (by omega) (fun g1 => ?_) (fun g1 => ?_)
          · skip
            refine w_iinc (pc2 := 171) C dX11_quarrels_168 rfl (iI_add _ _) rfl (by decide) rfl rfl ?_
            try dsimp only [List.set]
            refine w_goto (tgt := 4) C dX11_quarrels_171 (by decide) ?_
            -- at 4: .iload_n 2
            have nx := ih (a + 1) (by omega)
            rw [show qouR J c (a + 1) = qouR J c a + qinR J c a c from rfl] at nx
            rw [show j = c by omega]
            exact w_drop nx ⟨rfl, rfl, rfl, trivial⟩
          · exact absurd hj (by omega)
        | succ e ihe =>
          intro j hj haj
          have gj := hm.2.2 j (by omega)
          have hsj := s_X11_sounds (n := n) (L := L) (a := (j : Int)) hy hm ht (by omega)
          rw [if_pos (by omega), show ((j : Int).toNat) = j from rfl] at hsj
          have sj := sndR_bd hm ht (show j < c by omega)
          have nx := ihe (j + 1) (by omega) (by omega)
          have hq : qinR J c a (j + 1) = qinR J c a j + qvR J c a j := by
            show qinR J c a j + (if a < j then qvR J c a j else 0) = _
            rw [if_pos haj]
          rw [hq, ← Int.add_assoc] at nx
          have hqv : qvR J c a j = if ¬ (J 35 (102 + a) - J 35 (102 + j)).natAbs = 0 ∧ ¬ qbit (J 35 228) (((J 35 (102 + a) - J 35 (102 + j)).natAbs : Int) % 12) = 0 then max 0 (min (J 35 (2 + a) + sndR J c a) (J 35 (2 + j) + sndR J c j) - J 35 (2 + j)) else 0 := by
            unfold qvR canR
            simp only [decide_eq_true_eq]
          generalize hqin : qouR J c a + qinR J c a j = q0 at *
          -- this pair is told
          have no : ∀ lo4 lo5 lo6 : Int32, qvR J c a j = 0 → wp Γ 0 0 (QQ Γ post) 162 [some (.ref 34), some (.int (iI q0)), some (.int (iI a)), some (.int (iI j)), some (.int lo4), some (.int lo5), some (.int lo6)] [] n K (zw J) L R := by
            intro lo4 lo5 lo6 h0
            rw [h0, Int.add_zero] at nx
            refine w_iinc (pc2 := 165) C dX11_quarrels_162 rfl (iI_add _ _) rfl (by decide) rfl rfl ?_
            try dsimp only [List.set]
            refine w_goto (tgt := 18) C dX11_quarrels_165 (by decide) ?_
            -- at 18: .iload_n 3
            exact w_drop nx ⟨rfl, rfl, rfl, rfl, trivial⟩
          have no1 : ∀ lo4 : Int32, qvR J c a j = 0 → wp Γ 0 0 (QQ Γ post) 162 [some (.ref 34), some (.int (iI q0)), some (.int (iI a)), some (.int (iI j)), some (.int lo4), none, none] [] n K (zw J) L R := by
            intro lo4 h0
            rw [h0, Int.add_zero] at nx
            refine w_iinc (pc2 := 165) C dX11_quarrels_162 rfl (iI_add _ _) rfl (by decide) rfl rfl ?_
            try dsimp only [List.set]
            refine w_goto (tgt := 18) C dX11_quarrels_165 (by decide) ?_
            -- at 18: .iload_n 3
            exact w_drop nx ⟨rfl, rfl, rfl, rfl, trivial⟩
          have mid : ∀ w : Int, w = ((J 35 (102 + a) - J 35 (102 + j)).natAbs : Int) → wp Γ 0 0 (QQ Γ post) 59 [some (.ref 34), some (.int (iI q0)), some (.int (iI a)), some (.int (iI j)), some (.int (iI w)), none, none] [] n K (zw J) L R := by
            intro w hw
            rw [← hw] at hqv
            refine w_iload (pc2 := 61) C dX11_quarrels_59 rfl rfl ?_
            -- at 61: .ifCond .eq 101
            refine z_if_eq (pc2 := 64) (tgt := 162) C dX11_quarrels_61 (by decide) rfl (by omega) (fun g1 => ?_) (fun g1 => ?_)
            · exact no1 _ (by rw [hqv, if_neg (by omega)])
            · skip
              refine w_aload_n (pc2 := 65) C dX11_quarrels_64 rfl rfl ?_
              refine w_getR (pc2 := 68) C dX11_quarrels_65 fl_X11_7 (by first | exact hy.k _ | assumption) (by first | exact hy.r _ _ | assumption) rfl ?_
              refine w_sipush (pc2 := 71) (v := iI 228) C dX11_quarrels_68 (by decide) rfl ?_
              -- at 71: .iaload
              refine z_iald (pc2 := 72) (j := 228) C dX11_quarrels_71 (by first | exact hy.k _ | assumption) (by omega) (by omega) (by decide) rfl ?_
              refine w_iload (pc2 := 74) C dX11_quarrels_72 rfl rfl ?_
              refine w_bipush (pc2 := 76) (v := iI 12) C dX11_quarrels_74 (by decide) rfl ?_
              -- at 76: .irem
              refine z_irem (pc2 := 77) C dX11_quarrels_76 (by omega) rfl ?_
              refine w_ishr (pc2 := 78) C dX11_quarrels_77 rfl ?_
              refine w_iconst (pc2 := 79) (v := iI 1) C dX11_quarrels_78 (by decide) rfl ?_
              refine w_iand (pc2 := 80) C dX11_quarrels_79 rfl ?_
              -- at 80: .ifCond .ne 6
              change wp Γ 0 0 _ _ _ [.int (qbit (J 35 228) (w % 12))] _ _ _ _ _
              refine w_if_ne (pc2 := 83) (tgt := 86) C dX11_quarrels_80 (by decide) rfl (fun g2 => ?_) (fun g2 => ?_)
              · have hcn : ¬ (J 35 (102 + a) - J 35 (102 + j)).natAbs = 0 ∧ ¬ qbit (J 35 228) (w % 12) = 0 := ⟨by omega, g2⟩
                rw [if_pos hcn] at hqv
                have fin : ∀ z : Int, z = min (J 35 (2 + a) + sndR J c a) (J 35 (2 + j) + sndR J c j) → wp Γ 0 0 (QQ Γ post) 147 [some (.ref 34), some (.int (iI q0)), some (.int (iI a)), some (.int (iI j)), some (.int (iI w)), some (.int (iI (J 35 (2 + j)))), some (.int (iI z))] [] n K (zw J) L R := by
                  intro z hz
                  rw [← hz] at hqv
                  refine w_iload (pc2 := 149) C dX11_quarrels_147 rfl rfl ?_
                  refine w_iload (pc2 := 151) C dX11_quarrels_149 rfl rfl ?_
                  -- at 151: .if_icmp .le 11
                  refine z_icmp_le (pc2 := 154) (tgt := 162) C dX11_quarrels_151 (by decide) rfl (by omega) (by omega) (fun g3 => ?_) (fun g3 => ?_)
                  · exact no _ _ _ (by rw [hqv]; omega)
                  · skip
                    refine w_iload_n (pc2 := 155) C dX11_quarrels_154 rfl rfl ?_
                    refine w_iload (pc2 := 157) C dX11_quarrels_155 rfl rfl ?_
                    refine w_iload (pc2 := 159) C dX11_quarrels_157 rfl rfl ?_
                    refine z_isub (pc2 := 160) C dX11_quarrels_159 rfl ?_
                    refine z_iadd (pc2 := 161) C dX11_quarrels_160 rfl ?_
                    refine w_istore_n (pc2 := 162) C dX11_quarrels_161 rfl (by decide) rfl rfl ?_
                    try dsimp only [List.set]
                    refine w_iinc (pc2 := 165) C dX11_quarrels_162 rfl (iI_add _ _) rfl (by decide) rfl rfl ?_
                    try dsimp only [List.set]
                    refine w_goto (tgt := 18) C dX11_quarrels_165 (by decide) ?_
                    -- at 18: .iload_n 3
                    rw [show q0 + (z - J 35 (2 + j)) = q0 + qvR J c a j by rw [hqv]; omega]
                    exact w_drop nx ⟨rfl, rfl, rfl, rfl, trivial⟩
                refine w_aload_n (pc2 := 87) C dX11_quarrels_86 rfl rfl ?_
                refine w_getR (pc2 := 90) C dX11_quarrels_87 fl_X11_7 (by first | exact hy.k _ | assumption) (by first | exact hy.r _ _ | assumption) rfl ?_
                refine w_iconst (pc2 := 91) (v := iI 2) C dX11_quarrels_90 (by decide) rfl ?_
                refine w_iload_n (pc2 := 92) C dX11_quarrels_91 rfl rfl ?_
                refine z_iadd (pc2 := 93) C dX11_quarrels_92 rfl ?_
                -- at 93: .iaload
                refine z_iald (pc2 := 94) (j := 2 + j) C dX11_quarrels_93 (by first | exact hy.k _ | assumption) (by omega) (by omega) (by decide) rfl ?_
                refine w_istore (pc2 := 96) C dX11_quarrels_94 rfl (by decide) rfl rfl ?_
                try dsimp only [List.set]
                refine w_aload_n (pc2 := 97) C dX11_quarrels_96 rfl rfl ?_
                refine w_getR (pc2 := 100) C dX11_quarrels_97 fl_X11_7 (by first | exact hy.k _ | assumption) (by first | exact hy.r _ _ | assumption) rfl ?_
                refine w_iconst (pc2 := 101) (v := iI 2) C dX11_quarrels_100 (by decide) rfl ?_
                refine w_iload_n (pc2 := 102) C dX11_quarrels_101 rfl rfl ?_
                refine z_iadd (pc2 := 103) C dX11_quarrels_102 rfl ?_
                -- at 103: .iaload
                refine z_iald (pc2 := 104) (j := 2 + a) C dX11_quarrels_103 (by first | exact hy.k _ | assumption) (by omega) (by omega) (by decide) rfl ?_
                refine w_aload_n (pc2 := 105) C dX11_quarrels_104 rfl rfl ?_
                refine w_iload_n (pc2 := 106) C dX11_quarrels_105 rfl rfl ?_
                -- at 106: .invokevirtual 149
                refine w_cVi (pc2 := 109)  C dX11_quarrels_106 mb_X11_149 mv_X11_sounds (hsa) (by first | exact hy.k _ | assumption) rfl (by decide) rfl rfl (Nat.le_of_ble_eq_true rfl) ⟨by decide, by decide⟩ ⟨rfl, rfl⟩ ⟨by decide, by decide⟩ rfl ?_
                refine z_iadd (pc2 := 110) C dX11_quarrels_109 rfl ?_
                refine w_istore (pc2 := 112) C dX11_quarrels_110 rfl (by decide) rfl rfl ?_
                try dsimp only [List.set]
                refine w_aload_n (pc2 := 113) C dX11_quarrels_112 rfl rfl ?_
                refine w_getR (pc2 := 116) C dX11_quarrels_113 fl_X11_7 (by first | exact hy.k _ | assumption) (by first | exact hy.r _ _ | assumption) rfl ?_
                refine w_iconst (pc2 := 117) (v := iI 2) C dX11_quarrels_116 (by decide) rfl ?_
                refine w_iload_n (pc2 := 118) C dX11_quarrels_117 rfl rfl ?_
                refine z_iadd (pc2 := 119) C dX11_quarrels_118 rfl ?_
                -- at 119: .iaload
                refine z_iald (pc2 := 120) (j := 2 + j) C dX11_quarrels_119 (by first | exact hy.k _ | assumption) (by omega) (by omega) (by decide) rfl ?_
                refine w_aload_n (pc2 := 121) C dX11_quarrels_120 rfl rfl ?_
                refine w_iload_n (pc2 := 122) C dX11_quarrels_121 rfl rfl ?_
                -- at 122: .invokevirtual 149
                refine w_cVi (pc2 := 125)  C dX11_quarrels_122 mb_X11_149 mv_X11_sounds (hsj) (by first | exact hy.k _ | assumption) rfl (by decide) rfl rfl (Nat.le_of_ble_eq_true rfl) ⟨by decide, by decide⟩ ⟨rfl, rfl⟩ ⟨by decide, by decide⟩ rfl ?_
                refine z_iadd (pc2 := 126) C dX11_quarrels_125 rfl ?_
                refine w_iload (pc2 := 128) C dX11_quarrels_126 rfl rfl ?_
                -- at 128: .if_icmp .ge 19
                refine z_icmp_ge (pc2 := 131) (tgt := 147) C dX11_quarrels_128 (by decide) rfl (by omega) (by omega) (fun g4 => ?_) (fun g4 => ?_)
                · exact fin _ (by omega)
                · skip
                  refine w_aload_n (pc2 := 132) C dX11_quarrels_131 rfl rfl ?_
                  refine w_getR (pc2 := 135) C dX11_quarrels_132 fl_X11_7 (by first | exact hy.k _ | assumption) (by first | exact hy.r _ _ | assumption) rfl ?_
                  refine w_iconst (pc2 := 136) (v := iI 2) C dX11_quarrels_135 (by decide) rfl ?_
                  refine w_iload_n (pc2 := 137) C dX11_quarrels_136 rfl rfl ?_
                  refine z_iadd (pc2 := 138) C dX11_quarrels_137 rfl ?_
                  -- at 138: .iaload
                  refine z_iald (pc2 := 139) (j := 2 + j) C dX11_quarrels_138 (by first | exact hy.k _ | assumption) (by omega) (by omega) (by decide) rfl ?_
                  refine w_aload_n (pc2 := 140) C dX11_quarrels_139 rfl rfl ?_
                  refine w_iload_n (pc2 := 141) C dX11_quarrels_140 rfl rfl ?_
                  -- at 141: .invokevirtual 149
                  refine w_cVi (pc2 := 144)  C dX11_quarrels_141 mb_X11_149 mv_X11_sounds (hsj) (by first | exact hy.k _ | assumption) rfl (by decide) rfl rfl (Nat.le_of_ble_eq_true rfl) ⟨by decide, by decide⟩ ⟨rfl, rfl⟩ ⟨by decide, by decide⟩ rfl ?_
                  refine z_iadd (pc2 := 145) C dX11_quarrels_144 rfl ?_
                  refine w_istore (pc2 := 147) C dX11_quarrels_145 rfl (by decide) rfl rfl ?_
                  try dsimp only [List.set]
                  -- at 147: .iload 6
                  exact fin _ (by omega)
              · skip
                refine w_goto (tgt := 162) C dX11_quarrels_83 (by decide) ?_
                -- at 162: .iinc 3 1
                exact no1 _ (by rw [hqv, if_neg (fun q => q.2 g2)])
          refine w_iload_n (pc2 := 19) C dX11_quarrels_18 rfl rfl ?_
          refine w_aload_n (pc2 := 20) C dX11_quarrels_19 rfl rfl ?_
          refine w_getR (pc2 := 23) C dX11_quarrels_20 fl_X11_7 (by first | exact hy.k _ | assumption) (by first | exact hy.r _ _ | assumption) rfl ?_
          refine w_iconst (pc2 := 24) (v := iI 0) C dX11_quarrels_23 (by decide) rfl ?_
          -- at 24: .iaload
          refine z_iald (pc2 := 25) (j := 0) C dX11_quarrels_24 (by first | exact hy.k _ | assumption) (by omega) (by omega) (by decide) rfl ?_
          rw [hm.1]
          refine z_icmp_ge (pc2 := 28) (tgt := 168) C dX11_quarrels_25 (by decide) rfl (by omega) (by omega) (fun g1 => ?_) (fun g1 => ?_)
          · exact absurd g1 (by omega)
          · skip
            refine w_aload_n (pc2 := 29) C dX11_quarrels_28 rfl rfl ?_
            refine w_getR (pc2 := 32) C dX11_quarrels_29 fl_X11_7 (by first | exact hy.k _ | assumption) (by first | exact hy.r _ _ | assumption) rfl ?_
            refine w_bipush (pc2 := 34) (v := iI 102) C dX11_quarrels_32 (by decide) rfl ?_
            refine w_iload_n (pc2 := 35) C dX11_quarrels_34 rfl rfl ?_
            refine z_iadd (pc2 := 36) C dX11_quarrels_35 rfl ?_
            -- at 36: .iaload
            refine z_iald (pc2 := 37) (j := 102 + a) C dX11_quarrels_36 (by first | exact hy.k _ | assumption) (by omega) (by omega) (by decide) rfl ?_
            refine w_aload_n (pc2 := 38) C dX11_quarrels_37 rfl rfl ?_
            refine w_getR (pc2 := 41) C dX11_quarrels_38 fl_X11_7 (by first | exact hy.k _ | assumption) (by first | exact hy.r _ _ | assumption) rfl ?_
            refine w_bipush (pc2 := 43) (v := iI 102) C dX11_quarrels_41 (by decide) rfl ?_
            refine w_iload_n (pc2 := 44) C dX11_quarrels_43 rfl rfl ?_
            refine z_iadd (pc2 := 45) C dX11_quarrels_44 rfl ?_
            -- at 45: .iaload
            refine z_iald (pc2 := 46) (j := 102 + j) C dX11_quarrels_45 (by first | exact hy.k _ | assumption) (by omega) (by omega) (by decide) rfl ?_
            refine z_isub (pc2 := 47) C dX11_quarrels_46 rfl ?_
            refine w_istore (pc2 := 49) C dX11_quarrels_47 rfl (by decide) rfl rfl ?_
            try dsimp only [List.set]
            refine w_iload (pc2 := 51) C dX11_quarrels_49 rfl rfl ?_
            -- at 51: .ifCond .ge 8
            refine z_if_ge (pc2 := 54) (tgt := 59) C dX11_quarrels_51 (by decide) rfl (by omega) (fun g2 => ?_) (fun g2 => ?_)
            · exact mid _ (by omega)
            · skip
              refine w_iload (pc2 := 56) C dX11_quarrels_54 rfl rfl ?_
              refine z_ineg (pc2 := 57) C dX11_quarrels_56 rfl ?_
              refine w_istore (pc2 := 59) C dX11_quarrels_57 rfl (by decide) rfl rfl ?_
              try dsimp only [List.set]
              -- at 59: .iload 4
              exact mid _ (by omega)
      refine w_iload_n (pc2 := 5) C dX11_quarrels_4 rfl rfl ?_
      refine w_aload_n (pc2 := 6) C dX11_quarrels_5 rfl rfl ?_
      refine w_getR (pc2 := 9) C dX11_quarrels_6 fl_X11_7 (by first | exact hy.k _ | assumption) (by first | exact hy.r _ _ | assumption) rfl ?_
      refine w_iconst (pc2 := 10) (v := iI 0) C dX11_quarrels_9 (by decide) rfl ?_
      -- at 10: .iaload
      refine z_iald (pc2 := 11) (j := 0) C dX11_quarrels_10 (by first | exact hy.k _ | assumption) (by omega) (by omega) (by decide) rfl ?_
      rw [hm.1]
      refine z_icmp_ge (pc2 := 14) (tgt := 174) C dX11_quarrels_11 (by decide) rfl (by omega) (by omega) (fun g1 => ?_) (fun g1 => ?_)
      · exact absurd g1 (by omega)
      · skip
        refine w_iload_n (pc2 := 15) C dX11_quarrels_14 rfl rfl ?_
        refine w_iconst (pc2 := 16) (v := iI 1) C dX11_quarrels_15 (by decide) rfl ?_
        refine z_iadd (pc2 := 17) C dX11_quarrels_16 rfl ?_
        refine w_istore_n (pc2 := 18) C dX11_quarrels_17 rfl (by decide) rfl rfl ?_
        try dsimp only [List.set]
        -- at 18: .iload_n 3
        have i0 := inn (c - (a + 1)) (a + 1) (by omega) (by omega)
        rw [show qinR J c a (a + 1) = 0 from sumN_0 _ (fun k hk => if_neg (by omega)), Int.add_zero] at i0
        exact i0
  refine w_iconst (pc2 := 1) (v := iI 0) C dX11_quarrels_0 (by decide) rfl ?_
  refine w_istore_n (pc2 := 2) C dX11_quarrels_1 rfl (by decide) rfl rfl ?_
  try dsimp only [List.set]
  refine w_iconst (pc2 := 3) (v := iI 0) C dX11_quarrels_2 (by decide) rfl ?_
  refine w_istore_n (pc2 := 4) C dX11_quarrels_3 rfl (by decide) rfl rfl ?_
  try dsimp only [List.set]
  -- at 4: .iload_n 2
  exact key c 0 (by omega)
theorem s_X11_play (hy : Ly K R) {c s : Nat} {pm : Nat → Nat} {a : Int} (ha : R32 a) (hm : MuR J c) (hrp : RPR J) (hp : PnR J s pm) : S_X11_play [.ref 34, .int (iI a)] n K (zw J) L R (fun r2 n2 K2 I2 L2 R2 => (a = 1 ∧ Det (some (.int (iI (pnF pm s)))) n K (zw J) (psR L pm s) R r2 n2 K2 I2 L2 R2) ∨ (¬ (a = 0 ∨ a = 1) ∧ Det (some (.int (iI (-1)))) n K (zw J) L R r2 n2 K2 I2 L2 R2) ∨ (a = 0 ∧ ∃ J2 : wJn, Det (some (.int (iI (cntN (fun k => decide (¬ wR J c k = 2)) c)))) n K (zw J2) (pfR L (bR J) (wR J c) c) R r2 n2 K2 I2 L2 R2 ∧ StR J J2 c c)) := by
  have hc2 := hm.2.1
  obtain ⟨p1, p2, p3, p4⟩ := hp
  refine Sp_intro [some (.ref 34), some (.int (iI a)), none, none, none] rfl rfl (Nat.le_of_ble_eq_true rfl) rfl ?_
  intro Γ C
  replace C : C_X11_play Γ := C
  generalize hpost : (fun (r2 : Option Value) (n2 : Nat) (K2 : wKd) (I2 : wIn) (L2 : wLn) (R2 : wRf) => (a = 1 ∧ Det (some (.int (iI (pnF pm s)))) n K (zw J) (psR L pm s) R r2 n2 K2 I2 L2 R2) ∨ (¬ (a = 0 ∨ a = 1) ∧ Det (some (.int (iI (-1)))) n K (zw J) L R r2 n2 K2 I2 L2 R2) ∨ (a = 0 ∧ ∃ J2 : wJn, Det (some (.int (iI (cntN (fun k => decide (¬ wR J c k = 2)) c)))) n K (zw J2) (pfR L (bR J) (wR J c) c) R r2 n2 K2 I2 L2 R2 ∧ StR J J2 c c)) = post
  have key0 : a = 0 → ∀ (J2 : wJn), StR J J2 c c → ∀ (d j : Nat), j + d = c → wp Γ 0 0 (QQ Γ post) 24 [some (.ref 34), some (.int (iI a)), some (.int (iI (cntN (fun k => decide (¬ wR J c k = 2)) j))), some (.int (iI j)), none] [] n K (zw J2) (pfR L (bR J) (wR J c) j) R := by
    intro h0 J2 hS d
    have e35 : J2 35 = J 35 := hS.1 35 (by decide) (by decide) (by decide)
    have e0 : J2 35 0 = c := by rw [e35]; exact hm.1
    induction d with
    | zero =>
      intro j hj
      refine w_iload_n (pc2 := 25) C dX11_play_24 rfl rfl ?_
      refine w_aload_n (pc2 := 26) C dX11_play_25 rfl rfl ?_
      refine w_getR (pc2 := 29) C dX11_play_26 fl_X11_7 (by first | exact hy.k _ | assumption) (by first | exact hy.r _ _ | assumption) rfl ?_
      refine w_iconst (pc2 := 30) (v := iI 0) C dX11_play_29 (by decide) rfl ?_
      -- at 30: .iaload
      refine z_iald (pc2 := 31) (j := 0) C dX11_play_30 (by first | exact hy.k _ | assumption) (by omega) (by omega) (by decide) rfl ?_
      rw [e0]
      refine z_icmp_ge (pc2 := 34) (tgt := 74) C dX11_play_31 (by decide) rfl (by omega) (by omega) (fun g1 => ?_) (fun g1 => ?_)
      · skip
        refine w_iload_n (pc2 := 75) C dX11_play_74 rfl rfl ?_
        -- at 75: .ireturn
        exact w_iret C dX11_play_75 (by decide) (by decide) (by rw [← hpost]; exact Or.inr (Or.inr ⟨h0, J2, by rw [show j = c by omega]; exact ⟨rfl, rfl, rfl, rfl, rfl, rfl⟩, hS⟩))
      · exact absurd hj (by omega)
    | succ d ih =>
      intro j hj
      have nx := ih (j + 1) (by omega)
      have gj := hm.2.2 j (by omega)
      have hcn : cntN (fun k => decide (¬ wR J c k = 2)) (j + 1) = cntN (fun k => decide (¬ wR J c k = 2)) j + (if decide (¬ wR J c j = 2) = true then 1 else 0) := rfl
      have hpf : pfR L (bR J) (wR J c) (j + 1) = if wR J c j = 2 then pfR L (bR J) (wR J c) j else up2 (pfR L (bR J) (wR J c) j) 36 (J 35 (102 + j)).toNat (pfR L (bR J) (wR J c) j 36 (J 35 (102 + j)).toNat + 1) := rfl
      have hwh : wR J c j ≤ 2 := by
        show chs c (LR J) (RR J) (J 35 203) (c - j) (pR J c j).1 (pR J c j).2 ≤ 2
        have e : c - j = (c - (j + 1)) + 1 := by omega
        rw [e, chs]
        split
        · omega
        · split <;> omega
      have e3 : J2 35 (102 + j) = J 35 (102 + j) := by rw [e35]
      refine w_iload_n (pc2 := 25) C dX11_play_24 rfl rfl ?_
      refine w_aload_n (pc2 := 26) C dX11_play_25 rfl rfl ?_
      refine w_getR (pc2 := 29) C dX11_play_26 fl_X11_7 (by first | exact hy.k _ | assumption) (by first | exact hy.r _ _ | assumption) rfl ?_
      refine w_iconst (pc2 := 30) (v := iI 0) C dX11_play_29 (by decide) rfl ?_
      -- at 30: .iaload
      refine z_iald (pc2 := 31) (j := 0) C dX11_play_30 (by first | exact hy.k _ | assumption) (by omega) (by omega) (by decide) rfl ?_
      rw [e0]
      refine z_icmp_ge (pc2 := 34) (tgt := 74) C dX11_play_31 (by decide) rfl (by omega) (by omega) (fun g1 => ?_) (fun g1 => ?_)
      · exact absurd g1 (by omega)
      · skip
        refine w_aload_n (pc2 := 35) C dX11_play_34 rfl rfl ?_
        refine w_getR (pc2 := 38) C dX11_play_35 fl_X11_46 (by first | exact hy.k _ | assumption) (by first | exact hy.r _ _ | assumption) rfl ?_
        refine w_iload_n (pc2 := 39) C dX11_play_38 rfl rfl ?_
        -- at 39: .iaload
        refine z_iald (pc2 := 40) (j := j) C dX11_play_39 (by first | exact hy.k _ | assumption) (by omega) (by omega) (by decide) rfl ?_
        rw [hS.2.2.1 j (by omega)]
        refine w_iconst (pc2 := 41) (v := iI 2) C dX11_play_40 (by decide) rfl ?_
        -- at 41: .if_icmp .ne 6
        refine z_icmp_ne (pc2 := 44) (tgt := 47) C dX11_play_41 (by decide) rfl (by omega) (by omega) (fun g2 => ?_) (fun g2 => ?_)
        · have hw : ¬ wR J c j = 2 := by omega
          simp only [hw, not_false_eq_true, decide_true, if_true] at hcn
          rw [if_neg hw] at hpf
          rw [hcn, hpf] at nx
          refine w_aload_n (pc2 := 48) C dX11_play_47 rfl rfl ?_
          refine w_getR (pc2 := 51) C dX11_play_48 fl_X11_13 (by first | exact hy.k _ | assumption) (by first | exact hy.r _ _ | assumption) rfl ?_
          refine w_aload_n (pc2 := 52) C dX11_play_51 rfl rfl ?_
          refine w_getR (pc2 := 55) C dX11_play_52 fl_X11_7 (by first | exact hy.k _ | assumption) (by first | exact hy.r _ _ | assumption) rfl ?_
          refine w_bipush (pc2 := 57) (v := iI 102) C dX11_play_55 (by decide) rfl ?_
          refine w_iload_n (pc2 := 58) C dX11_play_57 rfl rfl ?_
          refine z_iadd (pc2 := 59) C dX11_play_58 rfl ?_
          -- at 59: .iaload
          refine z_iald (pc2 := 60) (j := 102 + j) C dX11_play_59 (by first | exact hy.k _ | assumption) (by omega) (by omega) (by decide) rfl ?_
          rw [e3]
          refine w_dup2 (pc2 := 61) C dX11_play_60 rfl rfl rfl ?_
          -- at 61: .laload
          refine z_lald (pc2 := 62) (j := (J 35 (102 + j)).toNat) C dX11_play_61 (by first | exact hy.k _ | assumption) (by omega) (by omega) (by decide) rfl ?_
          refine w_lconst (pc2 := 63) (v := 1) C dX11_play_62 (by decide) rfl ?_
          refine w_ladd (pc2 := 64) C dX11_play_63 rfl ?_
          -- at 64: .lastore
          refine z_last (pc2 := 65) (j := (J 35 (102 + j)).toNat) C dX11_play_64 (by first | exact hy.k _ | assumption) (by omega) (by omega) (by decide) rfl ?_
          refine w_iinc (pc2 := 68) C dX11_play_65 rfl (iI_add _ _) rfl (by decide) rfl rfl ?_
          try dsimp only [List.set]
          refine w_iinc (pc2 := 71) C dX11_play_68 rfl (iI_add _ _) rfl (by decide) rfl rfl ?_
          try dsimp only [List.set]
          refine w_goto (tgt := 24) C dX11_play_71 (by decide) ?_
          -- at 24: .iload_n 3
          exact nx
        · have hw : wR J c j = 2 := by omega
          simp only [hw, not_true_eq_false, decide_false] at hcn
          rw [if_pos hw] at hpf
          rw [hcn, hpf] at nx
          refine w_goto (tgt := 68) C dX11_play_44 (by decide) ?_
          refine w_iinc (pc2 := 71) C dX11_play_68 rfl (iI_add _ _) rfl (by decide) rfl rfl ?_
          try dsimp only [List.set]
          refine w_goto (tgt := 24) C dX11_play_71 (by decide) ?_
          -- at 24: .iload_n 3
          exact nx
  have key1 : a = 1 → ∀ (d j : Nat), j + d = s → wp Γ 0 0 (QQ Γ post) 78 [some (.ref 34), some (.int (iI a)), some (.int (iI (pnF pm j))), some (.int (iI j)), none] [] n K (zw J) (psR L pm j) R := by
    intro h1 d
    induction d with
    | zero =>
      intro j hj
      refine w_iload_n (pc2 := 79) C dX11_play_78 rfl rfl ?_
      refine w_aload_n (pc2 := 80) C dX11_play_79 rfl rfl ?_
      refine w_getR (pc2 := 83) C dX11_play_80 fl_X11_7 (by first | exact hy.k _ | assumption) (by first | exact hy.r _ _ | assumption) rfl ?_
      refine w_sipush (pc2 := 86) (v := iI 229) C dX11_play_83 (by decide) rfl ?_
      -- at 86: .iaload
      refine z_iald (pc2 := 87) (j := 229) C dX11_play_86 (by first | exact hy.k _ | assumption) (by omega) (by omega) (by decide) rfl ?_
      rw [p1]
      refine z_icmp_ge (pc2 := 90) (tgt := 147) C dX11_play_87 (by decide) rfl (by omega) (by omega) (fun g1 => ?_) (fun g1 => ?_)
      · skip
        refine w_iload_n (pc2 := 148) C dX11_play_147 rfl rfl ?_
        -- at 148: .ireturn
        exact w_iret C dX11_play_148 (by decide) (by decide) (by rw [← hpost]; exact Or.inl ⟨h1, by rw [show j = s by omega]; exact ⟨rfl, rfl, rfl, rfl, rfl, rfl⟩⟩)
      · exact absurd hj (by omega)
    | succ d ih =>
      intro j hj
      have hpj := p4 j (by omega)
      have inn : ∀ (e b : Nat), b + e = 24 → wp Γ 0 0 (QQ Γ post) 93 [some (.ref 34), some (.int (iI a)), some (.int (iI (pnF pm j + (popc (pm j) b : Nat)))), some (.int (iI j)), some (.int (iI b))] [] n K (zw J) (pbR (psR L pm j) (pm j) b) R := by
        intro e
        induction e with
        | zero =>
          intro b hb
          refine w_iload (pc2 := 95) C dX11_play_93 rfl rfl ?_
          refine w_bipush (pc2 := 97) (v := iI 24) C dX11_play_95 (by decide) rfl ?_
          -- at 97: .if_icmp .ge 44
          refine z_icmp_ge (pc2 := 100) (tgt := 141) C dX11_play_97 (by decide) rfl (by omega) (by omega) (fun g1 => ?_) (fun g1 => ?_)
          · skip
            refine w_iinc (pc2 := 144) C dX11_play_141 rfl (iI_add _ _) rfl (by decide) rfl rfl ?_
            try dsimp only [List.set]
            refine w_goto (tgt := 78) C dX11_play_144 (by decide) ?_
            -- at 78: .iload_n 3
            have nx := ih (j + 1) (by omega)
            rw [show pnF pm (j + 1) = pnF pm j + (popc (pm j) 24 : Nat) from rfl] at nx
            rw [show b = 24 by omega]
            exact w_drop nx ⟨rfl, rfl, rfl, rfl, trivial⟩
          · exact absurd hb (by omega)
        | succ e ihe =>
          intro b hb
          have nx := ihe (b + 1) (by omega)
          rw [popc_s, pbR] at nx
          refine w_iload (pc2 := 95) C dX11_play_93 rfl rfl ?_
          refine w_bipush (pc2 := 97) (v := iI 24) C dX11_play_95 (by decide) rfl ?_
          -- at 97: .if_icmp .ge 44
          refine z_icmp_ge (pc2 := 100) (tgt := 141) C dX11_play_97 (by decide) rfl (by omega) (by omega) (fun g1 => ?_) (fun g1 => ?_)
          · exact absurd hb (by omega)
          · skip
            refine w_aload_n (pc2 := 101) C dX11_play_100 rfl rfl ?_
            refine w_getR (pc2 := 104) C dX11_play_101 fl_X11_7 (by first | exact hy.k _ | assumption) (by first | exact hy.r _ _ | assumption) rfl ?_
            refine w_sipush (pc2 := 107) (v := iI 233) C dX11_play_104 (by decide) rfl ?_
            refine w_iload_n (pc2 := 108) C dX11_play_107 rfl rfl ?_
            refine z_iadd (pc2 := 109) C dX11_play_108 rfl ?_
            -- at 109: .iaload
            refine z_iald (pc2 := 110) (j := 233 + j) C dX11_play_109 (by first | exact hy.k _ | assumption) (by omega) (by omega) (by decide) rfl ?_
            rw [hpj.1]
            refine w_iload (pc2 := 112) C dX11_play_110 rfl rfl ?_
            refine w_ishr (pc2 := 113) C dX11_play_112 rfl ?_
            refine w_iconst (pc2 := 114) (v := iI 1) C dX11_play_113 (by decide) rfl ?_
            refine w_iand (pc2 := 115) C dX11_play_114 rfl ?_
            -- at 115: .ifCond .ne 6
            rw [bit01 hpj.2 (by omega)]
            refine z_if_ne (pc2 := 118) (tgt := 121) C dX11_play_115 (by decide) rfl (by split <;> omega) (fun g2 => ?_) (fun g2 => ?_)
            · have hbt : (pm j).testBit b = true := by
                rcases Decidable.em ((pm j).testBit b = true) with q | q
                · exact q
                · rw [if_neg q] at g2; exact absurd rfl g2
              rw [if_pos hbt, if_pos hbt] at nx
              refine w_aload_n (pc2 := 122) C dX11_play_121 rfl rfl ?_
              refine w_getR (pc2 := 125) C dX11_play_122 fl_X11_13 (by first | exact hy.k _ | assumption) (by first | exact hy.r _ _ | assumption) rfl ?_
              refine w_iload (pc2 := 127) C dX11_play_125 rfl rfl ?_
              refine w_dup2 (pc2 := 128) C dX11_play_127 rfl rfl rfl ?_
              -- at 128: .laload
              refine z_lald (pc2 := 129) (j := b) C dX11_play_128 (by first | exact hy.k _ | assumption) (by omega) (by omega) (by decide) rfl ?_
              refine w_lconst (pc2 := 130) (v := 1) C dX11_play_129 (by decide) rfl ?_
              refine w_ladd (pc2 := 131) C dX11_play_130 rfl ?_
              -- at 131: .lastore
              refine z_last (pc2 := 132) (j := b) C dX11_play_131 (by first | exact hy.k _ | assumption) (by omega) (by omega) (by decide) rfl ?_
              refine w_iinc (pc2 := 135) C dX11_play_132 rfl (iI_add _ _) rfl (by decide) rfl rfl ?_
              try dsimp only [List.set]
              refine w_iinc (pc2 := 138) C dX11_play_135 rfl (iI_add _ _) rfl (by decide) rfl rfl ?_
              try dsimp only [List.set]
              refine w_goto (tgt := 93) C dX11_play_138 (by decide) ?_
              -- at 93: .iload 4
              rw [show pnF pm j + (popc (pm j) b : Nat) + 1 = pnF pm j + ((popc (pm j) b + 1 : Nat) : Int) by omega]
              exact nx
            · have hbt : ¬ (pm j).testBit b = true := fun q => by rw [if_pos q] at g2; exact absurd g2 (by decide)
              rw [if_neg hbt, if_neg hbt] at nx
              refine w_goto (tgt := 135) C dX11_play_118 (by decide) ?_
              refine w_iinc (pc2 := 138) C dX11_play_135 rfl (iI_add _ _) rfl (by decide) rfl rfl ?_
              try dsimp only [List.set]
              refine w_goto (tgt := 93) C dX11_play_138 (by decide) ?_
              -- at 93: .iload 4
              exact nx
      refine w_iload_n (pc2 := 79) C dX11_play_78 rfl rfl ?_
      refine w_aload_n (pc2 := 80) C dX11_play_79 rfl rfl ?_
      refine w_getR (pc2 := 83) C dX11_play_80 fl_X11_7 (by first | exact hy.k _ | assumption) (by first | exact hy.r _ _ | assumption) rfl ?_
      refine w_sipush (pc2 := 86) (v := iI 229) C dX11_play_83 (by decide) rfl ?_
      -- at 86: .iaload
      refine z_iald (pc2 := 87) (j := 229) C dX11_play_86 (by first | exact hy.k _ | assumption) (by omega) (by omega) (by decide) rfl ?_
      rw [p1]
      refine z_icmp_ge (pc2 := 90) (tgt := 147) C dX11_play_87 (by decide) rfl (by omega) (by omega) (fun g1 => ?_) (fun g1 => ?_)
      · exact absurd g1 (by omega)
      · skip
        refine w_iconst (pc2 := 91) (v := iI 0) C dX11_play_90 (by decide) rfl ?_
        refine w_istore (pc2 := 93) C dX11_play_91 rfl (by decide) rfl rfl ?_
        try dsimp only [List.set]
        -- at 93: .iload 4
        have i0 := inn 24 0 (by omega)
        rw [show pnF pm j + (popc (pm j) 0 : Nat) = pnF pm j by show pnF pm j + ((0 : Nat) : Int) = _; omega] at i0
        exact i0
  have yes : (a = 0 ∨ a = 1) → wp Γ 0 0 (QQ Γ post) 11 [some (.ref 34), some (.int (iI a)), none, none, none] [] n K (zw J) L R := by
    intro h
    refine w_iconst (pc2 := 12) (v := iI 0) C dX11_play_11 (by decide) rfl ?_
    refine w_istore_n (pc2 := 13) C dX11_play_12 rfl (by decide) rfl rfl ?_
    try dsimp only [List.set]
    refine w_iload_n (pc2 := 14) C dX11_play_13 rfl rfl ?_
    -- at 14: .ifCond .ne 62
    refine z_if_ne (pc2 := 17) (tgt := 76) C dX11_play_14 (by decide) rfl (by omega) (fun g1 => ?_) (fun g1 => ?_)
    · skip
      refine w_iconst (pc2 := 77) (v := iI 0) C dX11_play_76 (by decide) rfl ?_
      refine w_istore_n (pc2 := 78) C dX11_play_77 rfl (by decide) rfl rfl ?_
      try dsimp only [List.set]
      -- at 78: .iload_n 3
      exact key1 (by omega) s 0 (by omega)
    · skip
      refine w_aload_n (pc2 := 18) C dX11_play_17 rfl rfl ?_
      -- at 18: .invokevirtual 143
      refine w_gV (pc2 := 21)  C dX11_play_18 mb_X11_143 mv_X11_sets (s_X11_sets hy hm hrp) (by first | exact hy.k _ | assumption) rfl (by decide) rfl rfl (Nat.le_of_ble_eq_true rfl) ⟨by decide, by decide⟩ ⟨rfl, rfl⟩ ⟨by decide, by decide⟩ rfl ?_
      rintro r2 n2 K2 I2 L2 R2 ⟨J2, hD, hS⟩
      obtain ⟨d1, d2, d3, d4, d5, d6⟩ := hD
      replace d2 := d2.symm
      replace d3 := d3.symm
      replace d5 := d5.symm
      replace d6 := d6.symm
      subst d1
      subst d2
      subst d3
      subst d4
      subst d5
      subst d6
      refine w_pop (pc2 := 22) C dX11_play_21 rfl rfl ?_
      refine w_iconst (pc2 := 23) (v := iI 0) C dX11_play_22 (by decide) rfl ?_
      refine w_istore_n (pc2 := 24) C dX11_play_23 rfl (by decide) rfl rfl ?_
      try dsimp only [List.set]
      -- at 24: .iload_n 3
      exact key0 g1 J2 hS c 0 (by omega)
  refine w_iload_n (pc2 := 1) C dX11_play_0 rfl rfl ?_
  -- at 1: .ifCond .eq 10
  refine z_if_eq (pc2 := 4) (tgt := 11) C dX11_play_1 (by decide) rfl (by omega) (fun h1 => ?_) (fun h1 => ?_)
  · exact yes (Or.inl h1)
  · skip
    refine w_iload_n (pc2 := 5) C dX11_play_4 rfl rfl ?_
    refine w_iconst (pc2 := 6) (v := iI 1) C dX11_play_5 (by decide) rfl ?_
    -- at 6: .if_icmp .eq 5
    refine z_icmp_eq (pc2 := 9) (tgt := 11) C dX11_play_6 (by decide) rfl (by omega) (by omega) (fun h2 => ?_) (fun h2 => ?_)
    · exact yes (Or.inr h2)
    · skip
      refine w_iconst (pc2 := 10) (v := iI (-1)) C dX11_play_9 (by decide) rfl ?_
      -- at 10: .ireturn
      exact w_iret C dX11_play_10 (by decide) (by decide) (by rw [← hpost]; exact Or.inr (Or.inl ⟨by omega, DetI rfl rfl⟩))
end REF5
