/-- the table of least costs is done -/
def Dn (J : wJn) (c : Nat) (o : Nat → Nat → Nat → Int) (t : Nat) : Prop := ∀ l r, l ≠ r → l ≤ c → r ≤ c → t < max l r → J 27 (l * 101 + r) = o (c - max l r) l r
abbrev whJ (J : wJn) (c : Nat) : Nat → Nat := whoF c (LJ J) (RJ J) (J 24 7)
abbrev goJ (J : wJn) (c : Nat) : Nat → Nat → Int := goneF c (LJ J) (RJ J) (J 24 7) (mJ J)
abbrev ouJ (J : wJn) (c : Nat) : Nat → Nat := outF c (LJ J) (RJ J) (J 24 7)
abbrev ptJ (J : wJn) (c : Nat) : Nat → Nat × Nat := pth c (LJ J) (RJ J) (J 24 7)
/-- what walk does up to STRIKE k -/
def Wk (J J2 : wJn) (c k : Nat) : Prop := (∀ a, a ≠ 24 → a ≠ 25 → a ≠ 26 → J2 a = J a) ∧ (∀ b, b ≠ 3 → J2 24 b = J 24 b) ∧ J2 24 3 = ouJ J c k ∧ (∀ i, i < k → J2 25 i = whJ J c i) ∧ J2 26 0 = goJ J c 0 k ∧ J2 26 1 = goJ J c 1 k
theorem chs_cases {c : Nat} {LC RC : Nat → Nat → Nat → Int} {π : Int} (d l r : Nat) : let k := c - (d + 1); (chs c LC RC π (d + 1) l r = 0 ∧ LC k l r < FAR ∧ LC k l r + opt c LC RC π d (k + 1) r = opt c LC RC π (d + 1) l r) ∨ (¬ (LC k l r < FAR ∧ LC k l r + opt c LC RC π d (k + 1) r = opt c LC RC π (d + 1) l r) ∧ ((chs c LC RC π (d + 1) l r = 1 ∧ RC k l r < FAR ∧ RC k l r + opt c LC RC π d l (k + 1) = opt c LC RC π (d + 1) l r) ∨ (¬ (RC k l r < FAR ∧ RC k l r + opt c LC RC π d l (k + 1) = opt c LC RC π (d + 1) l r) ∧ chs c LC RC π (d + 1) l r = 2))) := by
  intro k
  show _
  by_cases h1 : LC (c - (d + 1)) l r < FAR ∧ LC (c - (d + 1)) l r + opt c LC RC π d (c - (d + 1) + 1) r = opt c LC RC π (d + 1) l r
  · exact Or.inl ⟨by rw [chs, if_pos h1], h1⟩
  · refine Or.inr ⟨h1, ?_⟩
    by_cases h2 : RC (c - (d + 1)) l r < FAR ∧ RC (c - (d + 1)) l r + opt c LC RC π d l (c - (d + 1) + 1) = opt c LC RC π (d + 1) l r
    · exact Or.inl ⟨by rw [chs, if_neg h1, if_pos h2], h2⟩
    · exact Or.inr ⟨h2, by rw [chs, if_neg h1, if_neg h2]⟩
section WALK
variable {n : Nat} {K : wKd} {J : wJn} {L : wLn} {R : wRf}
theorem s_X6_walk (hy : Ly K R) {c : Nat} (hm : Mus J c) (hr : RP J) (hD : Dn J c (oJ J c) 0) (ht : J 24 2 = oJ J c c 0 0) : S_X6_walk [.ref 24] n K (zw J) L R (fun r2 n2 K2 I2 L2 R2 => ∃ J2 : wJn, Det none n K (zw J2) L R r2 n2 K2 I2 L2 R2 ∧ Wk J J2 c c) := by
  have hc := hm.1
  have hc2 := hm.2.1
  have hp : 0 ≤ J 24 7 ∧ J 24 7 ≤ 10000 := hr.2.2
  have hbd : ∀ d l r, d ≤ c → l ≤ c - d → r ≤ c - d → 0 ≤ oJ J c d l r ∧ oJ J c d l r ≤ J 24 7 * d := opt_bd (okL hm) (okR hm) hp hc2
  refine Sp_intro [some (.ref 24), none, none, none, none] rfl rfl (Nat.le_of_ble_eq_true rfl) rfl ?_
  intro Γ C
  replace C : C_X6_walk Γ := C
  generalize hpost : (fun (r2 : Option Value) (n2 : Nat) (K2 : wKd) (I2 : wIn) (L2 : wLn) (R2 : wRf) => ∃ J2 : wJn, Det none n K (zw J2) L R r2 n2 K2 I2 L2 R2 ∧ Wk J J2 c c) = post
  have key : ∀ (d k : Nat) (J2 : wJn), k + d = c → Wk J J2 c k → wp Γ 0 0 (QQ Γ post) 31 [some (.ref 24), some (.int (iI (((ptJ J c k).1 : Int) - 1))), some (.int (iI (((ptJ J c k).2 : Int) - 1))), some (.int (iI (oJ J c d (ptJ J c k).1 (ptJ J c k).2))), some (.int (iI k))] [] n K (zw J2) L R := by
    intro d
    induction d with
    | zero =>
      intro k J2 hk hw
      have e12 : J2 12 = J 12 := hw.1 12 (by decide) (by decide) (by decide)
      refine w_iload (pc2 := 33) C dX6_walk_31 rfl rfl ?_
      refine w_aload_n (pc2 := 34) C dX6_walk_33 rfl rfl ?_
      refine w_getR (pc2 := 37) C dX6_walk_34 fl_X6_21 (by first | exact hy.k _ | assumption) (by first | exact hy.r _ _ | assumption) rfl ?_
      refine z_getI (pc2 := 40) C dX6_walk_37 fl_X6_32 (by first | exact hy.k _ | assumption) rfl ?_
      -- at 40: .if_icmp .ge 142
      rw [e12]
      refine z_icmp_ge (pc2 := 43) (tgt := 182) C dX6_walk_40 (by decide) rfl (by omega) (by omega) (fun h1 => ?_) (fun h1 => ?_)
      · skip
        exact w_ret C dX6_walk_182 (by decide) (by decide) (by rw [← hpost]; exact ⟨J2, DetI rfl rfl, by rw [show k = c by omega] at hw; exact hw⟩)
      · exact absurd hk (by omega)
    | succ d ih =>
      intro k J2 hk hw
      have hle := pth_le c (LJ J) (RJ J) (J 24 7) k
      have hps : ptJ J c (k + 1) = (if whJ J c k = 0 then (k + 1, (ptJ J c k).2) else if whJ J c k = 1 then ((ptJ J c k).1, k + 1) else ptJ J c k) := rfl
      have hwh : whJ J c k = chs c (LJ J) (RJ J) (J 24 7) (d + 1) (ptJ J c k).1 (ptJ J c k).2 := by
        show chs c (LJ J) (RJ J) (J 24 7) (c - k) (ptJ J c k).1 (ptJ J c k).2 = _
        rw [show c - k = d + 1 by omega]
      have hcd : c - (d + 1) = k := by omega
      have hg0 : goJ J c 0 (k + 1) = goJ J c 0 k + (if whJ J c k = 0 then mJ J (ptJ J c k).1 k else 0) := rfl
      have hg1 : goJ J c 1 (k + 1) = goJ J c 1 k + (if whJ J c k = 1 then mJ J (ptJ J c k).2 k else 0) := rfl
      have hou : ouJ J c (k + 1) = ouJ J c k + (if decide (whJ J c k = 2) = true then 1 else 0) := rfl
      change (ptJ J c k).1 ≤ k ∧ (ptJ J c k).2 ≤ k at hle
      generalize hl : (ptJ J c k).1 = l at *
      generalize hrr : (ptJ J c k).2 = r at *
      have hcs : (chs c (LJ J) (RJ J) (J 24 7) (d + 1) l r = 0 ∧ LJ J k l r < FAR ∧ LJ J k l r + oJ J c d (k + 1) r = oJ J c (d + 1) l r) ∨ (¬ (LJ J k l r < FAR ∧ LJ J k l r + oJ J c d (k + 1) r = oJ J c (d + 1) l r) ∧ ((chs c (LJ J) (RJ J) (J 24 7) (d + 1) l r = 1 ∧ RJ J k l r < FAR ∧ RJ J k l r + oJ J c d l (k + 1) = oJ J c (d + 1) l r) ∨ (¬ (RJ J k l r < FAR ∧ RJ J k l r + oJ J c d l (k + 1) = oJ J c (d + 1) l r) ∧ chs c (LJ J) (RJ J) (J 24 7) (d + 1) l r = 2))) := by
        have h := chs_cases (c := c) (LC := LJ J) (RC := RJ J) (π := J 24 7) d l r
        simp only [hcd] at h
        exact h
      have om : oJ J c (d + 1) l r = min (J 24 7 + oJ J c d l r) (min (if LJ J k l r < FAR then LJ J k l r + oJ J c d (k + 1) r else J 24 7 + oJ J c d l r) (if RJ J k l r < FAR then RJ J k l r + oJ J c d l (k + 1) else J 24 7 + oJ J c d l r)) := by
        have h := opt_min (okL hm) (okR hm) hp hc2 (d := d) (l := l) (r := r) (by omega) (by omega) (by omega)
        rw [hcd] at h
        exact h
      obtain ⟨hw1, hw2, hw3, hw4, hw5, hw6⟩ := hw
      have e12 : J2 12 = J 12 := hw1 12 (by decide) (by decide) (by decide)
      have e13 : J2 13 = J 13 := hw1 13 (by decide) (by decide) (by decide)
      have e14 : J2 14 = J 14 := hw1 14 (by decide) (by decide) (by decide)
      have e27 : J2 27 = J 27 := hw1 27 (by decide) (by decide) (by decide)
      have f6 := hw2 6 (by decide)
      have f7 := hw2 7 (by decide)
      have hm2 : Mus J2 c := hm.rows e12 e13 e14
      have hr2 : RP J2 := by unfold RP; rw [f6, f7]; exact hr
      have eL : LJ J2 = LJ J := by unfold LJ; rw [e13, e14, f6]
      have eR : RJ J2 = RJ J := by unfold RJ; rw [e13, e14, f6]
      have eM : mJ J2 = mJ J := by unfold mJ; rw [e13, e14, f6]
      have t1 : J 27 ((k + 1) * 101 + r) = oJ J c d (k + 1) r := by
        have := hD (k + 1) r (by omega) (by omega) (by omega) (by omega)
        rw [show max (k + 1) r = k + 1 by omega, show c - (k + 1) = d by omega] at this
        exact this
      have t2 : J 27 (l * 101 + (k + 1)) = oJ J c d l (k + 1) := by
        have := hD l (k + 1) (by omega) (by omega) (by omega) (by omega)
        rw [show max l (k + 1) = k + 1 by omega, show c - (k + 1) = d by omega] at this
        exact this
      have i1 := hbd d (k + 1) r (by omega) (by omega) (by omega)
      have i2 := hbd d l (k + 1) (by omega) (by omega) (by omega)
      have i3 := hbd d l r (by omega) (by omega) (by omega)
      have i4 := hbd (d + 1) l r (by omega) (by omega) (by omega)
      have g1 := okL hm k l r (by omega) (by omega) (by omega)
      have g2 := okR hm k l r (by omega) (by omega) (by omega)
      have m2 : J 24 7 * (d : Int) ≤ 10000 * (d : Int) := Int.mul_le_mul_of_nonneg_right hp.2 (by omega)
      have m4 : J 24 7 * ((d + 1 : Nat) : Int) ≤ 10000 * ((d + 1 : Nat) : Int) := Int.mul_le_mul_of_nonneg_right hp.2 (by omega)
      have hFAR : FAR = 100000000 := rfl
      have vb : ∃ v, (if LJ J k l r < FAR then LJ J k l r + oJ J c d (k + 1) r else -1) = v := ⟨_, rfl⟩
      obtain ⟨v, hv⟩ := vb
      have hv2 := ite_or hv
      have ub : ∃ v, (if RJ J k l r < FAR then RJ J k l r + oJ J c d l (k + 1) else -1) = v := ⟨_, rfl⟩
      obtain ⟨u, hu⟩ := ub
      have hu2 := ite_or hu
      refine w_iload (pc2 := 33) C dX6_walk_31 rfl rfl ?_
      refine w_aload_n (pc2 := 34) C dX6_walk_33 rfl rfl ?_
      refine w_getR (pc2 := 37) C dX6_walk_34 fl_X6_21 (by first | exact hy.k _ | assumption) (by first | exact hy.r _ _ | assumption) rfl ?_
      refine z_getI (pc2 := 40) C dX6_walk_37 fl_X6_32 (by first | exact hy.k _ | assumption) rfl ?_
      -- at 40: .if_icmp .ge 142
      rw [e12]
      refine z_icmp_ge (pc2 := 43) (tgt := 182) C dX6_walk_40 (by decide) rfl (by omega) (by omega) (fun h1 => ?_) (fun h1 => ?_)
      · exact absurd hk (by omega)
      · skip
        refine w_aload_n (pc2 := 44) C dX6_walk_43 rfl rfl ?_
        refine w_iconst (pc2 := 45) (v := iI 0) C dX6_walk_44 (by decide) rfl ?_
        refine w_iload_n (pc2 := 46) C dX6_walk_45 rfl rfl ?_
        refine w_iload_n (pc2 := 47) C dX6_walk_46 rfl rfl ?_
        refine w_iload (pc2 := 49) C dX6_walk_47 rfl rfl ?_
        -- at 49: .invokevirtual 55
        refine w_cVi (pc2 := 52)  C dX6_walk_49 mb_X6_55 mv_X6_costBy (s_X6_costBy0 hy hm2 hr2 hle.1 hle.2 (show k < c by omega)) (by first | exact hy.k _ | assumption) rfl (by decide) rfl rfl (Nat.le_of_ble_eq_true rfl) ⟨by decide, by decide⟩ ⟨rfl, rfl⟩ ⟨by decide, by decide⟩ rfl ?_
        rw [eL, e27, t1, hv]
        refine w_iload_n (pc2 := 53) C dX6_walk_52 rfl rfl ?_
        -- at 53: .if_icmp .ne 44
        refine z_icmp_ne (pc2 := 56) (tgt := 97) C dX6_walk_53 (by decide) rfl (by generalize J 24 7 * (d : Int) = pd at *; omega) (by generalize J 24 7 * ((d + 1 : Nat) : Int) = pd at *; omega) (fun h2 => ?_) (fun h2 => ?_)
        · skip
          refine w_aload_n (pc2 := 98) C dX6_walk_97 rfl rfl ?_
          refine w_iconst (pc2 := 99) (v := iI 1) C dX6_walk_98 (by decide) rfl ?_
          refine w_iload_n (pc2 := 100) C dX6_walk_99 rfl rfl ?_
          refine w_iload_n (pc2 := 101) C dX6_walk_100 rfl rfl ?_
          refine w_iload (pc2 := 103) C dX6_walk_101 rfl rfl ?_
          -- at 103: .invokevirtual 55
          refine w_cVi (pc2 := 106)  C dX6_walk_103 mb_X6_55 mv_X6_costBy (s_X6_costBy1 hy hm2 hr2 hle.1 hle.2 (show k < c by omega)) (by first | exact hy.k _ | assumption) rfl (by decide) rfl rfl (Nat.le_of_ble_eq_true rfl) ⟨by decide, by decide⟩ ⟨rfl, rfl⟩ ⟨by decide, by decide⟩ rfl ?_
          rw [eR, e27, t2, hu]
          refine w_iload_n (pc2 := 107) C dX6_walk_106 rfl rfl ?_
          -- at 107: .if_icmp .ne 44
          refine z_icmp_ne (pc2 := 110) (tgt := 151) C dX6_walk_107 (by decide) rfl (by generalize J 24 7 * (d : Int) = pd at *; omega) (by generalize J 24 7 * ((d + 1 : Nat) : Int) = pd at *; omega) (fun h3 => ?_) (fun h3 => ?_)
          · -- LEFT OUT
            have hw0 : whJ J c k = 2 := by
              rw [hwh]
              rcases hcs with ⟨q, q1, q2⟩ | ⟨-, ⟨q, q1, q2⟩ | ⟨-, q⟩⟩
              · exact absurd q2 (by rcases hv2 with ⟨a, b⟩ | ⟨a, b⟩ <;> omega)
              · exact absurd q2 (by rcases hu2 with ⟨a, b⟩ | ⟨a, b⟩ <;> omega)
              · exact q
            have hod : oJ J c (d + 1) l r - J 24 7 = oJ J c d l r := by
              have z1 : LJ J k l r < FAR → LJ J k l r + oJ J c d (k + 1) r ≠ oJ J c (d + 1) l r := fun q => by rcases hv2 with ⟨a, b⟩ | ⟨a, b⟩ <;> omega
              have z2 : RJ J k l r < FAR → RJ J k l r + oJ J c d l (k + 1) ≠ oJ J c (d + 1) l r := fun q => by rcases hu2 with ⟨a, b⟩ | ⟨a, b⟩ <;> omega
              by_cases q1 : LJ J k l r < FAR
              · have z1 := z1 q1
                rw [if_pos q1] at om
                by_cases q2 : RJ J k l r < FAR
                · have z2 := z2 q2
                  rw [if_pos q2] at om; omega
                · rw [if_neg q2] at om; omega
              · rw [if_neg q1] at om
                by_cases q2 : RJ J k l r < FAR
                · have z2 := z2 q2
                  rw [if_pos q2] at om; omega
                · rw [if_neg q2] at om; omega
            refine w_aload_n (pc2 := 152) C dX6_walk_151 rfl rfl ?_
            refine w_getR (pc2 := 155) C dX6_walk_152 fl_X6_9 (by first | exact hy.k _ | assumption) (by first | exact hy.r _ _ | assumption) rfl ?_
            refine w_iload (pc2 := 157) C dX6_walk_155 rfl rfl ?_
            refine w_iconst (pc2 := 158) (v := iI 2) C dX6_walk_157 (by decide) rfl ?_
            -- at 158: .iastore
            refine z_iast (pc2 := 159) (j := k) C dX6_walk_158 (by first | exact hy.k _ | assumption) (by omega) (by omega) (by decide) rfl ?_
            refine w_aload_n (pc2 := 160) C dX6_walk_159 rfl rfl ?_
            refine w_dup (pc2 := 161) C dX6_walk_160 rfl rfl ?_
            refine z_getI (pc2 := 164) C dX6_walk_161 fl_X6_71 (by first | exact hy.k _ | assumption) rfl ?_
            refine w_iconst (pc2 := 165) (v := iI 1) C dX6_walk_164 (by decide) rfl ?_
            refine z_iadd (pc2 := 166) C dX6_walk_165 rfl ?_
            refine z_putI (pc2 := 169) C dX6_walk_166 fl_X6_71 (by first | exact hy.k _ | assumption) (by rfl) (by rfl) rfl ?_
            refine w_iload_n (pc2 := 170) C dX6_walk_169 rfl rfl ?_
            refine w_aload_n (pc2 := 171) C dX6_walk_170 rfl rfl ?_
            refine z_getI (pc2 := 174) C dX6_walk_171 fl_X6_29 (by first | exact hy.k _ | assumption) rfl ?_
            refine z_isub (pc2 := 175) C dX6_walk_174 rfl ?_
            refine w_istore_n (pc2 := 176) C dX6_walk_175 rfl (by decide) rfl rfl ?_
            try dsimp only [List.set]
            refine w_iinc (pc2 := 179) C dX6_walk_176 rfl (iI_add _ _) rfl (by decide) rfl rfl ?_
            try dsimp only [List.set]
            refine w_goto (tgt := 31) C dX6_walk_179 (by decide) ?_
            -- at 31: .iload 4
            have e7 : up2 (up2 J2 25 k 2) 24 3 (up2 J2 25 k 2 24 3 + 1) 24 7 = J 24 7 := by rw [up2_n _ _ _ _ (by omega), up2_n _ _ _ _ (by omega)]; exact f7
            rw [e7, hod]
            have hps2 : ptJ J c (k + 1) = ptJ J c k := by rw [hps, if_neg (by omega), if_neg (by omega)]
            have := ih (k + 1) (up2 (up2 J2 25 k 2) 24 3 (up2 J2 25 k 2 24 3 + 1)) (by omega) ?_
            · rw [hps2, hl, hrr] at this
              exact this
            · refine ⟨fun a h4 h5 h6 => by rw [up2_row h4, up2_row h5]; exact hw1 a h4 h5 h6, fun b hb => by rw [up2_n _ _ _ _ (by omega), up2_n _ _ _ _ (by omega)]; exact hw2 b hb, ?_, fun i hi => ?_, ?_, ?_⟩
              · rw [up2_s, up2_n _ _ _ _ (by omega), hw3, hou, if_pos (by simp [hw0])]; rfl
              · rw [up2_row (by decide)]
                by_cases e : i = k
                · subst e; rw [up2_s, hw0]; rfl
                · rw [up2_n _ _ _ _ (by omega)]; exact hw4 i (by omega)
              · rw [up2_row (by decide), up2_row (by decide), hw5, hg0, if_neg (by omega), Int.add_zero]
              · rw [up2_row (by decide), up2_row (by decide), hw6, hg1, if_neg (by omega), Int.add_zero]
          · -- RIGHT
            have hx : RJ J k l r < FAR := by
              rcases hu2 with ⟨a, b⟩ | ⟨a, b⟩
              · exact a
              · omega
            have hw0 : whJ J c k = 1 := by
              rw [hwh]
              rcases hcs with ⟨q, q1, q2⟩ | ⟨-, ⟨q, q1, q2⟩ | ⟨q3, q⟩⟩
              · exact absurd q2 (by rcases hv2 with ⟨a, b⟩ | ⟨a, b⟩ <;> omega)
              · exact q
              · exact absurd ⟨hx, by rcases hu2 with ⟨a, b⟩ | ⟨a, b⟩ <;> omega⟩ q3
            have hps2 : ptJ J c (k + 1) = (l, k + 1) := by rw [hps, if_neg (by omega), if_pos hw0]
            have hm3 : Mus (up2 J2 25 k 1) c := hm2.rows (up2_row (by decide)) (up2_row (by decide)) (up2_row (by decide))
            have hr3 : RP (up2 J2 25 k 1) := by unfold RP; rw [up2_row (by decide)]; exact hr2
            have eM3 : mJ (up2 J2 25 k 1) = mJ J := by unfold mJ; rw [up2_row (a := 13) (by decide), up2_row (a := 14) (by decide), up2_row (a := 24) (by decide), e13, e14, f6]
            have en : neg1 (mJ J r k) = mJ J r k := if_pos (show mJ J r k < FAR from hx)
            refine w_aload_n (pc2 := 111) C dX6_walk_110 rfl rfl ?_
            refine w_getR (pc2 := 114) C dX6_walk_111 fl_X6_9 (by first | exact hy.k _ | assumption) (by first | exact hy.r _ _ | assumption) rfl ?_
            refine w_iload (pc2 := 116) C dX6_walk_114 rfl rfl ?_
            refine w_iconst (pc2 := 117) (v := iI 1) C dX6_walk_116 (by decide) rfl ?_
            -- at 117: .iastore
            refine z_iast (pc2 := 118) (j := k) C dX6_walk_117 (by first | exact hy.k _ | assumption) (by omega) (by omega) (by decide) rfl ?_
            refine w_aload_n (pc2 := 119) C dX6_walk_118 rfl rfl ?_
            refine w_getR (pc2 := 122) C dX6_walk_119 fl_X6_15 (by first | exact hy.k _ | assumption) (by first | exact hy.r _ _ | assumption) rfl ?_
            refine w_iconst (pc2 := 123) (v := iI 1) C dX6_walk_122 (by decide) rfl ?_
            refine w_dup2 (pc2 := 124) C dX6_walk_123 rfl rfl rfl ?_
            -- at 124: .iaload
            refine z_iald (pc2 := 125) (j := 1) C dX6_walk_124 (by first | exact hy.k _ | assumption) (by omega) (by omega) (by decide) rfl ?_
            refine w_aload_n (pc2 := 126) C dX6_walk_125 rfl rfl ?_
            refine w_iload_n (pc2 := 127) C dX6_walk_126 rfl rfl ?_
            refine w_iload (pc2 := 129) C dX6_walk_127 rfl rfl ?_
            -- at 129: .invokevirtual 65
            refine w_cVi (pc2 := 132)  C dX6_walk_129 mb_X6_65 mv_X6_moveTo (s_X6_moveTo hy hm3 hr3 (show r ≤ c by omega) (show k < c by omega)) (by first | exact hy.k _ | assumption) rfl (by decide) rfl rfl (Nat.le_of_ble_eq_true rfl) ⟨by decide, by decide⟩ ⟨rfl, rfl⟩ ⟨by decide, by decide⟩ rfl ?_
            rw [eM3, en]
            refine z_iadd (pc2 := 133) C dX6_walk_132 rfl ?_
            -- at 133: .iastore
            refine z_iast (pc2 := 134) (j := 1) C dX6_walk_133 (by first | exact hy.k _ | assumption) (by omega) (by omega) (by decide) rfl ?_
            refine w_iload (pc2 := 136) C dX6_walk_134 rfl rfl ?_
            refine w_istore_n (pc2 := 137) C dX6_walk_136 rfl (by decide) rfl rfl ?_
            try dsimp only [List.set]
            refine w_aload_n (pc2 := 138) C dX6_walk_137 rfl rfl ?_
            refine w_getR (pc2 := 141) C dX6_walk_138 fl_X6_18 (by first | exact hy.k _ | assumption) (by first | exact hy.r _ _ | assumption) rfl ?_
            refine w_iload_n (pc2 := 142) C dX6_walk_141 rfl rfl ?_
            refine w_iload_n (pc2 := 143) C dX6_walk_142 rfl rfl ?_
            -- at 143: .invokestatic 37
            rw [show (k : Int) = ((k + 1 : Nat) : Int) - 1 by omega]
            refine w_cSi (pc2 := 146)  C dX6_walk_143 mb_X6_37 ms_X6_spot (s_X6_spot) rfl rfl (Nat.le_of_ble_eq_true rfl) ⟨by decide, by decide⟩ ⟨rfl, rfl⟩ ⟨by decide, by decide⟩ rfl ?_
            refine z_iald (pc2 := 147) (j := l * 101 + (k + 1)) C dX6_walk_146 (by first | exact hy.k _ | assumption) (by omega) (by omega) (by decide) rfl ?_
            have e27b : ∀ x y, up2 (up2 J2 25 k 1) 26 1 x 27 y = J 27 y := fun x y => by rw [up2_row (by decide), up2_row (by decide), e27]
            rw [e27b, t2]
            refine w_istore_n (pc2 := 148) C dX6_walk_147 rfl (by decide) rfl rfl ?_
            try dsimp only [List.set]
            refine w_goto (tgt := 176) C dX6_walk_148 (by decide) ?_
            refine w_iinc (pc2 := 179) C dX6_walk_176 rfl (iI_add _ _) rfl (by decide) rfl rfl ?_
            try dsimp only [List.set]
            refine w_goto (tgt := 31) C dX6_walk_179 (by decide) ?_
            -- at 31: .iload 4
            rw [show ((k + 1 : Nat) : Int) - 1 + 1 = ((k + 1 : Nat) : Int) by omega]
            have := ih (k + 1) (up2 (up2 J2 25 k 1) 26 1 (up2 J2 25 k 1 26 1 + mJ J r k)) (by omega) ?_
            · rw [hps2] at this
              exact this
            · refine ⟨fun a h4 h5 h6 => by rw [up2_row h6, up2_row h5]; exact hw1 a h4 h5 h6, fun b hb => by rw [up2_row (by decide), up2_row (by decide)]; exact hw2 b hb, ?_, fun i hi => ?_, ?_, ?_⟩
              · rw [up2_row (by decide), up2_row (by decide), hw3, hou, if_neg (by simp [hw0])]; rfl
              · rw [up2_row (by decide)]
                by_cases e : i = k
                · subst e; rw [up2_s, hw0]; rfl
                · rw [up2_n _ _ _ _ (by omega)]; exact hw4 i (by omega)
              · rw [up2_n _ _ _ _ (by omega), up2_row (by decide), hw5, hg0, if_neg (by omega), Int.add_zero]
              · rw [up2_s, up2_row (by decide), hw6, hg1, if_pos hw0]
        · -- LEFT
          have hx : LJ J k l r < FAR := by
            rcases hv2 with ⟨a, b⟩ | ⟨a, b⟩
            · exact a
            · omega
          have hw0 : whJ J c k = 0 := by
            rw [hwh]
            rcases hcs with ⟨q, q1, q2⟩ | ⟨q3, -⟩
            · exact q
            · exact absurd ⟨hx, by rcases hv2 with ⟨a, b⟩ | ⟨a, b⟩ <;> omega⟩ q3
          have hps2 : ptJ J c (k + 1) = (k + 1, r) := by rw [hps, if_pos hw0]
          have hm3 : Mus (up2 J2 25 k 0) c := hm2.rows (up2_row (by decide)) (up2_row (by decide)) (up2_row (by decide))
          have hr3 : RP (up2 J2 25 k 0) := by unfold RP; rw [up2_row (by decide)]; exact hr2
          have eM3 : mJ (up2 J2 25 k 0) = mJ J := by unfold mJ; rw [up2_row (a := 13) (by decide), up2_row (a := 14) (by decide), up2_row (a := 24) (by decide), e13, e14, f6]
          have en : neg1 (mJ J l k) = mJ J l k := by
            refine if_pos ?_
            have : LJ J k l r < FAR := hx
            unfold LJ LCc at this
            by_cases q : r ≠ 0 ∧ J 13 (r - 1) = J 13 k
            · rw [if_pos q] at this; exact absurd this (by omega)
            · rw [if_neg q] at this; exact this
          refine w_aload_n (pc2 := 57) C dX6_walk_56 rfl rfl ?_
          refine w_getR (pc2 := 60) C dX6_walk_57 fl_X6_9 (by first | exact hy.k _ | assumption) (by first | exact hy.r _ _ | assumption) rfl ?_
          refine w_iload (pc2 := 62) C dX6_walk_60 rfl rfl ?_
          refine w_iconst (pc2 := 63) (v := iI 0) C dX6_walk_62 (by decide) rfl ?_
          -- at 63: .iastore
          refine z_iast (pc2 := 64) (j := k) C dX6_walk_63 (by first | exact hy.k _ | assumption) (by omega) (by omega) (by decide) rfl ?_
          refine w_aload_n (pc2 := 65) C dX6_walk_64 rfl rfl ?_
          refine w_getR (pc2 := 68) C dX6_walk_65 fl_X6_15 (by first | exact hy.k _ | assumption) (by first | exact hy.r _ _ | assumption) rfl ?_
          refine w_iconst (pc2 := 69) (v := iI 0) C dX6_walk_68 (by decide) rfl ?_
          refine w_dup2 (pc2 := 70) C dX6_walk_69 rfl rfl rfl ?_
          -- at 70: .iaload
          refine z_iald (pc2 := 71) (j := 0) C dX6_walk_70 (by first | exact hy.k _ | assumption) (by omega) (by omega) (by decide) rfl ?_
          refine w_aload_n (pc2 := 72) C dX6_walk_71 rfl rfl ?_
          refine w_iload_n (pc2 := 73) C dX6_walk_72 rfl rfl ?_
          refine w_iload (pc2 := 75) C dX6_walk_73 rfl rfl ?_
          -- at 75: .invokevirtual 65
          refine w_cVi (pc2 := 78)  C dX6_walk_75 mb_X6_65 mv_X6_moveTo (s_X6_moveTo hy hm3 hr3 (show l ≤ c by omega) (show k < c by omega)) (by first | exact hy.k _ | assumption) rfl (by decide) rfl rfl (Nat.le_of_ble_eq_true rfl) ⟨by decide, by decide⟩ ⟨rfl, rfl⟩ ⟨by decide, by decide⟩ rfl ?_
          rw [eM3, en]
          refine z_iadd (pc2 := 79) C dX6_walk_78 rfl ?_
          -- at 79: .iastore
          refine z_iast (pc2 := 80) (j := 0) C dX6_walk_79 (by first | exact hy.k _ | assumption) (by omega) (by omega) (by decide) rfl ?_
          refine w_iload (pc2 := 82) C dX6_walk_80 rfl rfl ?_
          refine w_istore_n (pc2 := 83) C dX6_walk_82 rfl (by decide) rfl rfl ?_
          try dsimp only [List.set]
          refine w_aload_n (pc2 := 84) C dX6_walk_83 rfl rfl ?_
          refine w_getR (pc2 := 87) C dX6_walk_84 fl_X6_18 (by first | exact hy.k _ | assumption) (by first | exact hy.r _ _ | assumption) rfl ?_
          refine w_iload_n (pc2 := 88) C dX6_walk_87 rfl rfl ?_
          refine w_iload_n (pc2 := 89) C dX6_walk_88 rfl rfl ?_
          -- at 89: .invokestatic 37
          rw [show (k : Int) = ((k + 1 : Nat) : Int) - 1 by omega]
          refine w_cSi (pc2 := 92)  C dX6_walk_89 mb_X6_37 ms_X6_spot (s_X6_spot) rfl rfl (Nat.le_of_ble_eq_true rfl) ⟨by decide, by decide⟩ ⟨rfl, rfl⟩ ⟨by decide, by decide⟩ rfl ?_
          refine z_iald (pc2 := 93) (j := (k + 1) * 101 + r) C dX6_walk_92 (by first | exact hy.k _ | assumption) (by omega) (by omega) (by decide) rfl ?_
          have e27b : ∀ x y, up2 (up2 J2 25 k 0) 26 0 x 27 y = J 27 y := fun x y => by rw [up2_row (by decide), up2_row (by decide), e27]
          rw [e27b, t1]
          refine w_istore_n (pc2 := 94) C dX6_walk_93 rfl (by decide) rfl rfl ?_
          try dsimp only [List.set]
          refine w_goto (tgt := 176) C dX6_walk_94 (by decide) ?_
          refine w_iinc (pc2 := 179) C dX6_walk_176 rfl (iI_add _ _) rfl (by decide) rfl rfl ?_
          try dsimp only [List.set]
          refine w_goto (tgt := 31) C dX6_walk_179 (by decide) ?_
          -- at 31: .iload 4
          rw [show ((k + 1 : Nat) : Int) - 1 + 1 = ((k + 1 : Nat) : Int) by omega]
          have := ih (k + 1) (up2 (up2 J2 25 k 0) 26 0 (up2 J2 25 k 0 26 0 + mJ J l k)) (by omega) ?_
          · rw [hps2] at this
            exact this
          · refine ⟨fun a h4 h5 h6 => by rw [up2_row h6, up2_row h5]; exact hw1 a h4 h5 h6, fun b hb => by rw [up2_row (by decide), up2_row (by decide)]; exact hw2 b hb, ?_, fun i hi => ?_, ?_, ?_⟩
            · rw [up2_row (by decide), up2_row (by decide), hw3, hou, if_neg (by simp [hw0])]; rfl
            · rw [up2_row (by decide)]
              by_cases e : i = k
              · subst e; rw [up2_s, hw0]; rfl
              · rw [up2_n _ _ _ _ (by omega)]; exact hw4 i (by omega)
            · rw [up2_s, up2_row (by decide), hw5, hg0, if_pos hw0]
            · rw [up2_n _ _ _ _ (by omega), up2_row (by decide), hw6, hg1, if_neg (by omega), Int.add_zero]
  refine w_iconst (pc2 := 1) (v := iI (-1)) C dX6_walk_0 (by decide) rfl ?_
  refine w_istore_n (pc2 := 2) C dX6_walk_1 rfl (by decide) rfl rfl ?_
  try dsimp only [List.set]
  refine w_iconst (pc2 := 3) (v := iI (-1)) C dX6_walk_2 (by decide) rfl ?_
  refine w_istore_n (pc2 := 4) C dX6_walk_3 rfl (by decide) rfl rfl ?_
  try dsimp only [List.set]
  refine w_aload_n (pc2 := 5) C dX6_walk_4 rfl rfl ?_
  refine z_getI (pc2 := 8) C dX6_walk_5 fl_X6_44 (by first | exact hy.k _ | assumption) rfl ?_
  refine w_istore_n (pc2 := 9) C dX6_walk_8 rfl (by decide) rfl rfl ?_
  try dsimp only [List.set]
  refine w_aload_n (pc2 := 10) C dX6_walk_9 rfl rfl ?_
  refine w_getR (pc2 := 13) C dX6_walk_10 fl_X6_15 (by first | exact hy.k _ | assumption) (by first | exact hy.r _ _ | assumption) rfl ?_
  refine w_iconst (pc2 := 14) (v := iI 0) C dX6_walk_13 (by decide) rfl ?_
  refine w_iconst (pc2 := 15) (v := iI 0) C dX6_walk_14 (by decide) rfl ?_
  -- at 15: .iastore
  refine z_iast (pc2 := 16) (j := 0) C dX6_walk_15 (by first | exact hy.k _ | assumption) (by omega) (by omega) (by decide) rfl ?_
  refine w_aload_n (pc2 := 17) C dX6_walk_16 rfl rfl ?_
  refine w_getR (pc2 := 20) C dX6_walk_17 fl_X6_15 (by first | exact hy.k _ | assumption) (by first | exact hy.r _ _ | assumption) rfl ?_
  refine w_iconst (pc2 := 21) (v := iI 1) C dX6_walk_20 (by decide) rfl ?_
  refine w_iconst (pc2 := 22) (v := iI 0) C dX6_walk_21 (by decide) rfl ?_
  -- at 22: .iastore
  refine z_iast (pc2 := 23) (j := 1) C dX6_walk_22 (by first | exact hy.k _ | assumption) (by omega) (by omega) (by decide) rfl ?_
  refine w_aload_n (pc2 := 24) C dX6_walk_23 rfl rfl ?_
  refine w_iconst (pc2 := 25) (v := iI 0) C dX6_walk_24 (by decide) rfl ?_
  refine z_putI (pc2 := 28) C dX6_walk_25 fl_X6_71 (by first | exact hy.k _ | assumption) (by rfl) (by rfl) rfl ?_
  refine w_iconst (pc2 := 29) (v := iI 0) C dX6_walk_28 (by decide) rfl ?_
  refine w_istore (pc2 := 31) C dX6_walk_29 rfl (by decide) rfl rfl ?_
  try dsimp only [List.set]
  -- at 31: .iload 4
  rw [ht]
  refine key c 0 _ (by omega) ⟨fun a h4 h5 h6 => by rw [up2_row h4, up2_row h6, up2_row h6], fun b hb => by rw [up2_n _ _ _ _ (by omega), up2_row (by decide), up2_row (by decide)], by rw [up2_s]; rfl, fun i hi => absurd hi (by omega), ?_, ?_⟩
  · rw [up2_row (by decide), up2_n _ _ _ _ (by omega), up2_s]; rfl
  · rw [up2_row (by decide), up2_s]; rfl
end WALK
