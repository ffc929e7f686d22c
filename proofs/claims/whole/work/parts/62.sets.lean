/-- a choice that gives the least -/
def gdC (c : Nat) (tk bl : Nat → Int) (ρ π : Int) (k l r ch : Nat) : Prop := cst tk bl ρ π k l r ch < FAR ∧ cst tk bl ρ π k l r ch + bhd c (LCx tk bl ρ) (RCx tk bl ρ) π k l r ch = opt c (LCx tk bl ρ) (RCx tk bl ρ) π (c - k) l r
theorem chs_first {c : Nat} {tk bl : Nat → Int} {ρ π : Int} (hL : okC c (LCx tk bl ρ)) (hR : okC c (RCx tk bl ρ)) (hp : 0 ≤ π ∧ π ≤ 10000) (hc : c ≤ 100) {k l r : Nat} (hk : k < c) (hl : l ≤ k) (hr : r ≤ k) : chs c (LCx tk bl ρ) (RCx tk bl ρ) π (c - k) l r ≤ 2 ∧ gdC c tk bl ρ π k l r (chs c (LCx tk bl ρ) (RCx tk bl ρ) π (c - k) l r) ∧ ∀ ch, ch < chs c (LCx tk bl ρ) (RCx tk bl ρ) π (c - k) l r → ¬ gdC c tk bl ρ π k l r ch := by
  have e : c - k = (c - (k + 1)) + 1 := by omega
  have e2 : c - (c - (k + 1) + 1) = k := by omega
  have h := chs_cases (c := c) (LC := LCx tk bl ρ) (RC := RCx tk bl ρ) (π := π) (c - (k + 1)) l r
  simp only [e2] at h
  have om := opt_min hL hR hp hc (d := c - (k + 1)) (l := l) (r := r) (by omega) (by omega) (by omega)
  rw [e2] at om
  unfold gdC
  rw [e]
  rcases h with ⟨h0, h1, h2⟩ | ⟨hn, ⟨h0, h1, h2⟩ | ⟨hn2, h0⟩⟩
  · rw [h0]
    exact ⟨by omega, ⟨h1, h2⟩, fun ch h => absurd h (Nat.not_lt_zero _)⟩
  · rw [h0]
    refine ⟨by omega, ⟨h1, h2⟩, fun ch h => ?_⟩
    have : ch = 0 := by omega
    subst this
    exact hn
  · rw [h0]
    refine ⟨by omega, ⟨?_, ?_⟩, fun ch h => ?_⟩
    · show π < FAR; unfold FAR; omega
    · show π + opt c (LCx tk bl ρ) (RCx tk bl ρ) π (c - (k + 1)) l r = _
      generalize opt c (LCx tk bl ρ) (RCx tk bl ρ) π (c - (k + 1) + 1) l r = z at *
      generalize opt c (LCx tk bl ρ) (RCx tk bl ρ) π (c - (k + 1)) l r = z0 at *
      generalize opt c (LCx tk bl ρ) (RCx tk bl ρ) π (c - (k + 1)) (k + 1) r = z1 at *
      generalize opt c (LCx tk bl ρ) (RCx tk bl ρ) π (c - (k + 1)) l (k + 1) = z2 at *
      generalize LCx tk bl ρ k l r = x at *
      generalize RCx tk bl ρ k l r = y at *
      by_cases q1 : x < FAR
      · rw [if_pos q1] at om
        by_cases q2 : y < FAR
        · rw [if_pos q2] at om; omega
        · rw [if_neg q2] at om; omega
      · rw [if_neg q1] at om
        by_cases q2 : y < FAR
        · rw [if_pos q2] at om; omega
        · rw [if_neg q2] at om; omega
    · have : ch = 0 ∨ ch = 1 := by omega
      rcases this with q | q
      · subst q; exact hn
      · subst q; exact hn2
abbrev LR (J : wJn) : Nat → Nat → Nat → Int := LCx (tR J) (bR J) (J 35 202)
abbrev RR (J : wJn) : Nat → Nat → Nat → Int := RCx (tR J) (bR J) (J 35 202)
abbrev oR (J : wJn) (c : Nat) : Nat → Nat → Nat → Int := opt c (LR J) (RR J) (J 35 203)
abbrev wR (J : wJn) (c : Nat) : Nat → Nat := whoF c (LR J) (RR J) (J 35 203)
abbrev gR2 (J : wJn) (c : Nat) : Nat → Nat → Int := goneF c (LR J) (RR J) (J 35 203) (mvF (tR J) (bR J) (J 35 202))
abbrev pR (J : wJn) (c : Nat) : Nat → Nat × Nat := pth c (LR J) (RR J) (J 35 203)
/-- THE SETTING found up to STRIKE k -/
def StR (J J2 : wJn) (c k : Nat) : Prop := (∀ a, a ≠ 45 → a ≠ 46 → a ≠ 47 → J2 a = J a) ∧ Lst J2 c (LR J) (RR J) (J 35 203) 0 ∧ (∀ i, i < k → J2 46 i = wR J c i) ∧ J2 47 0 = gR2 J c 0 k ∧ J2 47 1 = gR2 J c 1 k
theorem Lst.row {J J2 : wJn} {c k0 : Nat} {LC RC : Nat → Nat → Nat → Int} {π : Int} (h : Lst J c LC RC π k0) (e : J2 45 = J 45) : Lst J2 c LC RC π k0 := by unfold Lst; rw [e]; exact h
theorem Lst.mono {J : wJn} {c k0 k1 : Nat} {LC RC : Nat → Nat → Nat → Int} {π : Int} (h : Lst J c LC RC π k0) (e : k0 ≤ k1) : Lst J c LC RC π k1 := fun k l r a b d f => h k l r (by omega) b d f
section SETS
variable {n : Nat} {K : wKd} {J : wJn} {L : wLn} {R : wRf}
def RPR (J : wJn) : Prop := (1 ≤ J 35 202 ∧ J 35 202 ≤ 24) ∧ 0 ≤ J 35 203 ∧ J 35 203 ≤ 10000
theorem goneF_bd {c : Nat} {LC RC : Nat → Nat → Nat → Int} {π : Int} {mv : Nat → Nat → Int} (h : ∀ l k, k < c → l ≤ k → -100000000 ≤ mv l k ∧ mv l k ≤ 100000000) (f : Nat) : ∀ k, k ≤ c → -100000000 * (k : Int) ≤ goneF c LC RC π mv f k ∧ goneF c LC RC π mv f k ≤ 100000000 * (k : Int)
  | 0, _ => by simp [goneF]
  | k + 1, hk => by
    have := goneF_bd (LC := LC) (RC := RC) (π := π) h f k (by omega)
    have hle := pth_le c LC RC π k
    have h1 := h (if f = 0 then (pth c LC RC π k).1 else (pth c LC RC π k).2) k (by omega) (by split <;> omega)
    simp only [goneF]
    generalize mv (if f = 0 then (pth c LC RC π k).1 else (pth c LC RC π k).2) k = z at *
    split <;> omega
theorem s_X11_sets (hy : Ly K R) {c : Nat} (hm : MuR J c) (hrp : RPR J) : S_X11_sets [.ref 34] n K (zw J) L R (fun r2 n2 K2 I2 L2 R2 => ∃ J2 : wJn, Det (some (.int (iI (oR J c c 0 0)))) n K (zw J2) L R r2 n2 K2 I2 L2 R2 ∧ StR J J2 c c) := by
  have hc2 := hm.2.1
  obtain ⟨h1, h2⟩ := hrp
  have okl := okLx (J 35 202) hm
  have okr := okRx (J 35 202) hm
  refine Sp_intro [some (.ref 34), none, none, none, none, none] rfl rfl (Nat.le_of_ble_eq_true rfl) rfl ?_
  intro Γ C
  replace C : C_X11_sets Γ := C
  generalize hpost : (fun (r2 : Option Value) (n2 : Nat) (K2 : wKd) (I2 : wIn) (L2 : wLn) (R2 : wRf) => ∃ J2 : wJn, Det (some (.int (iI (oR J c c 0 0)))) n K (zw J2) L R r2 n2 K2 I2 L2 R2 ∧ StR J J2 c c) = post
  have key : ∀ (d k : Nat) (J2 : wJn), k + d = c → StR J J2 c k → wp Γ 0 0 (QQ Γ post) 42 [some (.ref 34), some (.int (iI (oR J c c 0 0))), some (.int (iI (pR J c k).1)), some (.int (iI (pR J c k).2)), some (.int (iI k)), none] [] n K (zw J2) L R := by
    intro d
    induction d with
    | zero =>
      intro k J2 hk hw
      have e35 : J2 35 = J 35 := hw.1 35 (by decide) (by decide) (by decide)
      have e0 : J2 35 0 = c := by rw [e35]; exact hm.1
      refine w_iload (pc2 := 44) C dX11_sets_42 rfl rfl ?_
      refine w_aload_n (pc2 := 45) C dX11_sets_44 rfl rfl ?_
      refine w_getR (pc2 := 48) C dX11_sets_45 fl_X11_7 (by first | exact hy.k _ | assumption) (by first | exact hy.r _ _ | assumption) rfl ?_
      refine w_iconst (pc2 := 49) (v := iI 0) C dX11_sets_48 (by decide) rfl ?_
      -- at 49: .iaload
      refine z_iald (pc2 := 50) (j := 0) C dX11_sets_49 (by first | exact hy.k _ | assumption) (by omega) (by omega) (by decide) rfl ?_
      rw [e0]
      refine z_icmp_ge (pc2 := 53) (tgt := 222) C dX11_sets_50 (by decide) rfl (by omega) (by omega) (fun g1 => ?_) (fun g1 => ?_)
      · skip
        refine w_iload_n (pc2 := 223) C dX11_sets_222 rfl rfl ?_
        -- at 223: .ireturn
        exact w_iret C dX11_sets_223 (by decide) (by decide) (by rw [← hpost]; exact ⟨J2, DetI rfl rfl, by rw [show k = c by omega] at hw; exact hw⟩)
      · exact absurd hk (by omega)
    | succ d ih =>
      intro k J2 hk hw
      have hle := pth_le c (LR J) (RR J) (J 35 203) k
      have hps : pR J c (k + 1) = (if wR J c k = 0 then (k + 1, (pR J c k).2) else if wR J c k = 1 then ((pR J c k).1, k + 1) else pR J c k) := rfl
      have hg0 : gR2 J c 0 (k + 1) = gR2 J c 0 k + (if wR J c k = 0 then mvF (tR J) (bR J) (J 35 202) (pR J c k).1 k else 0) := rfl
      have hg1 : gR2 J c 1 (k + 1) = gR2 J c 1 k + (if wR J c k = 1 then mvF (tR J) (bR J) (J 35 202) (pR J c k).2 k else 0) := rfl
      change (pR J c k).1 ≤ k ∧ (pR J c k).2 ≤ k at hle
      have hfst := chs_first okl okr h2 hc2 (k := k) (by omega) hle.1 hle.2
      change wR J c k ≤ 2 ∧ gdC c (tR J) (bR J) (J 35 202) (J 35 203) k (pR J c k).1 (pR J c k).2 (wR J c k) ∧ (∀ ch, ch < wR J c k → ¬ gdC c (tR J) (bR J) (J 35 202) (J 35 203) k (pR J c k).1 (pR J c k).2 ch) at hfst
      obtain ⟨hw1, hw2, hw3, hw4, hw5⟩ := hw
      have e35 : J2 35 = J 35 := hw1 35 (by decide) (by decide) (by decide)
      have e0 : J2 35 0 = c := by rw [e35]; exact hm.1
      have e202 : J2 35 202 = J 35 202 := by rw [e35]
      have e203 : J2 35 203 = J 35 203 := by rw [e35]
      have eT : tR J2 = tR J := by unfold tR; rw [e35]
      have eB : bR J2 = bR J := by unfold bR; rw [e35]
      have hm2 := hm.row e35
      generalize hl : (pR J c k).1 = l at *
      generalize hrr : (pR J c k).2 = r at *
      generalize hww : wR J c k = w at *
      have hcst : ∀ ch : Nat, ch ≤ 2 → S_X11_costOf [.ref 34, .int (iI k), .int (iI l), .int (iI r), .int (iI ch), .int (iI (J 35 202)), .int (iI (J 35 203))] n K (zw J2) L R (Det (some (.int (iI (cst (tR J) (bR J) (J 35 202) (J 35 203) k l r ch)))) n K (zw J2) L R) := fun ch hch => by
        have := s_X11_costOf (n := n) (L := L) (π := J 35 203) hy hm2 (show k < c by omega) hle.1 hle.2 hch h1
        rw [eT, eB] at this
        exact this
      have hbh := fun (ch : Nat) (hch : ch ≤ 2) => s_X11_behind (n := n) (L := L) hy (hw2.mono (show 0 ≤ k + 1 by omega)) hc2 (show k < c by omega) hle.1 hle.2 hch
      have hbhb : ∀ ch, ch ≤ 2 → 0 ≤ bhd c (LR J) (RR J) (J 35 203) k l r ch ∧ bhd c (LR J) (RR J) (J 35 203) k l r ch ≤ 100000000 := fun ch hch => by
        unfold bhd
        exact opt_far okl okr h2.1 (c - (k + 1)) _ _ (by omega) (by split <;> omega) (by split <;> omega)
      have hcsb : ∀ ch, ch ≤ 2 → 0 ≤ cst (tR J) (bR J) (J 35 202) (J 35 203) k l r ch ∧ cst (tR J) (bR J) (J 35 202) (J 35 203) k l r ch ≤ 100000000 := fun ch hch => by
        have q1 := okl k l r (by omega) (by omega) (by omega)
        have q2 := okr k l r (by omega) (by omega) (by omega)
        unfold cst
        unfold FAR at *
        split
        · omega
        · split <;> omega
      have hop : 0 ≤ opt c (LR J) (RR J) (J 35 203) (c - k) l r ∧ opt c (LR J) (RR J) (J 35 203) (c - k) l r ≤ FAR := opt_far okl okr h2.1 (c - k) l r (by omega) (by omega) (by omega)
      have hlst := hw2 k l r (by omega) (by omega) hle.1 hle.2
      have hpl := pl_lt (k := k) (l := l) (r := r) (by omega) (by omega) (by omega)
      -- the choice is told
      have upd : ∀ (J3 : wJn), (∀ a, a ≠ 46 → a ≠ 47 → J3 a = J2 a) → (∀ i, i ≠ k → J3 46 i = J2 46 i) → J3 46 k = (w : Nat) → J3 47 0 = gR2 J c 0 (k + 1) → J3 47 1 = gR2 J c 1 (k + 1) → StR J J3 c (k + 1) := by
        intro J3 b1 b2 b3 b4 b5
        refine ⟨fun a a1 a2 a3 => by rw [b1 a a2 a3]; exact hw1 a a1 a2 a3, hw2.row (b1 45 (by decide) (by decide)), fun i hi => ?_, b4, b5⟩
        by_cases e : i = k
        · subst e; rw [b3, hww]
        · rw [b2 i e]; exact hw3 i (by omega)
      have fin : wp Γ 0 0 (QQ Γ post) 146 [some (.ref 34), some (.int (iI (oR J c c 0 0))), some (.int (iI l)), some (.int (iI r)), some (.int (iI k)), some (.int (iI w))] [] n K (zw J2) L R := by
        have hw012 : w = 0 ∨ w = 1 ∨ w = 2 := by omega
        have ihn := fun (J3 : wJn) (h : StR J J3 c (k + 1)) => ih (k + 1) J3 (by omega) h
        rw [hps] at ihn
        rcases hw012 with e | e | e
        · subst e
          rw [if_pos rfl] at ihn hg0
          rw [if_neg (by decide)] at hg1
          refine w_aload_n (pc2 := 147) C dX11_sets_146 rfl rfl ?_
          refine w_getR (pc2 := 150) C dX11_sets_147 fl_X11_46 (by first | exact hy.k _ | assumption) (by first | exact hy.r _ _ | assumption) rfl ?_
          refine w_iload (pc2 := 152) C dX11_sets_150 rfl rfl ?_
          refine w_iload (pc2 := 154) C dX11_sets_152 rfl rfl ?_
          -- at 154: .iastore
          refine z_iast (pc2 := 155) (j := k) C dX11_sets_154 (by first | exact hy.k _ | assumption) (by omega) (by omega) (by decide) rfl ?_
          refine w_iload (pc2 := 157) C dX11_sets_155 rfl rfl ?_
          refine w_iconst (pc2 := 158) (v := iI 2) C dX11_sets_157 (by decide) rfl ?_
          -- at 158: .if_icmp .ge 37
          refine z_icmp_ge (pc2 := 161) (tgt := 195) C dX11_sets_158 (by decide) rfl (by omega) (by omega) (fun g1 => ?_) (fun g1 => ?_)
          · exact absurd g1 (by decide)
          · skip
            refine w_aload_n (pc2 := 162) C dX11_sets_161 rfl rfl ?_
            refine w_getR (pc2 := 165) C dX11_sets_162 fl_X11_49 (by first | exact hy.k _ | assumption) (by first | exact hy.r _ _ | assumption) rfl ?_
            refine w_iload (pc2 := 167) C dX11_sets_165 rfl rfl ?_
            refine w_dup2 (pc2 := 168) C dX11_sets_167 rfl rfl rfl ?_
            -- at 168: .iaload
            refine z_iald (pc2 := 169) (j := 0) C dX11_sets_168 (by first | exact hy.k _ | assumption) (by omega) (by omega) (by decide) rfl ?_
            refine w_aload_n (pc2 := 170) C dX11_sets_169 rfl rfl ?_
            refine w_iload (pc2 := 172) C dX11_sets_170 rfl rfl ?_
            -- at 172: .ifCond .ne 7
            refine z_if_ne (pc2 := 175) (tgt := 179) C dX11_sets_172 (by decide) rfl (by omega) (fun g2 => ?_) (fun g2 => ?_)
            · exact absurd rfl g2
            · skip
              refine w_iload_n (pc2 := 176) C dX11_sets_175 rfl rfl ?_
              refine w_goto (tgt := 180) C dX11_sets_176 (by decide) ?_
              refine w_iload (pc2 := 182) C dX11_sets_180 rfl rfl ?_
              refine w_aload_n (pc2 := 183) C dX11_sets_182 rfl rfl ?_
              refine w_getR (pc2 := 186) C dX11_sets_183 fl_X11_7 (by first | exact hy.k _ | assumption) (by first | exact hy.r _ _ | assumption) rfl ?_
              refine w_sipush (pc2 := 189) (v := iI 202) C dX11_sets_186 (by decide) rfl ?_
              -- at 189: .iaload
              refine z_iald (pc2 := 190) (j := 202) C dX11_sets_189 (by first | exact hy.k _ | assumption) (by omega) (by omega) (by decide) rfl ?_
              rw [show up2 J2 46 k (((0 : Nat) : Int)) 35 202 = J 35 202 by rw [up2_row (by decide)]; exact e202, show up2 J2 46 k (((0 : Nat) : Int)) 47 0 = gR2 J c 0 k by rw [up2_row (by decide)]; exact hw4]
              have hmv1 := s_X11_moves (n := n) (K := K) (L := L) (R := R) (J := up2 J2 46 k (((0 : Nat) : Int))) (c := c) (k := k) (l := l) (ρ := J 35 202) hy (hm2.row (up2_row (by decide))) (by omega) (by omega) h1
              rw [show tR (up2 J2 46 k (((0 : Nat) : Int))) = tR J by rw [← eT]; unfold tR; rw [up2_row (by decide)], show bR (up2 J2 46 k (((0 : Nat) : Int))) = bR J by rw [← eB]; unfold bR; rw [up2_row (by decide)]] at hmv1
              refine w_cVi (pc2 := 193)  C dX11_sets_190 mb_X11_125 mv_X11_moves (hmv1) (by first | exact hy.k _ | assumption) rfl (by decide) rfl rfl (Nat.le_of_ble_eq_true rfl) ⟨by decide, by decide⟩ ⟨rfl, rfl⟩ ⟨by decide, by decide⟩ rfl ?_
              refine z_iadd (pc2 := 194) C dX11_sets_193 rfl ?_
              -- at 194: .iastore
              refine z_iast (pc2 := 195) (j := 0) C dX11_sets_194 (by first | exact hy.k _ | assumption) (by omega) (by omega) (by decide) rfl ?_
              refine w_iload (pc2 := 197) C dX11_sets_195 rfl rfl ?_
              -- at 197: .ifCond .ne 8
              refine z_if_ne (pc2 := 200) (tgt := 205) C dX11_sets_197 (by decide) rfl (by omega) (fun g3 => ?_) (fun g3 => ?_)
              · exact absurd rfl g3
              · skip
                refine w_iload (pc2 := 202) C dX11_sets_200 rfl rfl ?_
                refine w_iconst (pc2 := 203) (v := iI 1) C dX11_sets_202 (by decide) rfl ?_
                refine z_iadd (pc2 := 204) C dX11_sets_203 rfl ?_
                refine w_istore_n (pc2 := 205) C dX11_sets_204 rfl (by decide) rfl rfl ?_
                try dsimp only [List.set]
                refine w_iload (pc2 := 207) C dX11_sets_205 rfl rfl ?_
                refine w_iconst (pc2 := 208) (v := iI 1) C dX11_sets_207 (by decide) rfl ?_
                -- at 208: .if_icmp .ne 8
                refine z_icmp_ne (pc2 := 211) (tgt := 216) C dX11_sets_208 (by decide) rfl (by omega) (by omega) (fun g4 => ?_) (fun g4 => ?_)
                · skip
                  refine w_iinc (pc2 := 219) C dX11_sets_216 rfl (iI_add _ _) rfl (by decide) rfl rfl ?_
                  try dsimp only [List.set]
                  refine w_goto (tgt := 42) C dX11_sets_219 (by decide) ?_
                  -- at 42: .iload 4
                  rw [show ((k : Int) + 1) = ((k + 1 : Nat) : Int) by omega]
                  refine w_drop (ihn _ (upd _ (fun a a1 a2 => by rw [up2_row a2, up2_row a1]) (fun i hi => by rw [up2_row (by decide), up2_n _ _ _ _ (by omega)]) (by rw [up2_row (by decide), up2_s]) (by rw [up2_s, hg0]) (by rw [up2_n _ _ _ _ (by omega), up2_row (by decide), hw5, hg1]; omega))) ⟨rfl, rfl, rfl, rfl, rfl, trivial⟩
                · exact absurd g4 (by decide)
        · subst e
          rw [if_neg (by decide), if_pos rfl] at ihn
          rw [if_neg (by decide)] at hg0
          rw [if_pos rfl] at hg1
          refine w_aload_n (pc2 := 147) C dX11_sets_146 rfl rfl ?_
          refine w_getR (pc2 := 150) C dX11_sets_147 fl_X11_46 (by first | exact hy.k _ | assumption) (by first | exact hy.r _ _ | assumption) rfl ?_
          refine w_iload (pc2 := 152) C dX11_sets_150 rfl rfl ?_
          refine w_iload (pc2 := 154) C dX11_sets_152 rfl rfl ?_
          -- at 154: .iastore
          refine z_iast (pc2 := 155) (j := k) C dX11_sets_154 (by first | exact hy.k _ | assumption) (by omega) (by omega) (by decide) rfl ?_
          refine w_iload (pc2 := 157) C dX11_sets_155 rfl rfl ?_
          refine w_iconst (pc2 := 158) (v := iI 2) C dX11_sets_157 (by decide) rfl ?_
          -- at 158: .if_icmp .ge 37
          refine z_icmp_ge (pc2 := 161) (tgt := 195) C dX11_sets_158 (by decide) rfl (by omega) (by omega) (fun g1 => ?_) (fun g1 => ?_)
          · exact absurd g1 (by decide)
          · skip
            refine w_aload_n (pc2 := 162) C dX11_sets_161 rfl rfl ?_
            refine w_getR (pc2 := 165) C dX11_sets_162 fl_X11_49 (by first | exact hy.k _ | assumption) (by first | exact hy.r _ _ | assumption) rfl ?_
            refine w_iload (pc2 := 167) C dX11_sets_165 rfl rfl ?_
            refine w_dup2 (pc2 := 168) C dX11_sets_167 rfl rfl rfl ?_
            -- at 168: .iaload
            refine z_iald (pc2 := 169) (j := 1) C dX11_sets_168 (by first | exact hy.k _ | assumption) (by omega) (by omega) (by decide) rfl ?_
            refine w_aload_n (pc2 := 170) C dX11_sets_169 rfl rfl ?_
            refine w_iload (pc2 := 172) C dX11_sets_170 rfl rfl ?_
            -- at 172: .ifCond .ne 7
            refine z_if_ne (pc2 := 175) (tgt := 179) C dX11_sets_172 (by decide) rfl (by omega) (fun g2 => ?_) (fun g2 => ?_)
            · skip
              refine w_iload_n (pc2 := 180) C dX11_sets_179 rfl rfl ?_
              refine w_iload (pc2 := 182) C dX11_sets_180 rfl rfl ?_
              refine w_aload_n (pc2 := 183) C dX11_sets_182 rfl rfl ?_
              refine w_getR (pc2 := 186) C dX11_sets_183 fl_X11_7 (by first | exact hy.k _ | assumption) (by first | exact hy.r _ _ | assumption) rfl ?_
              refine w_sipush (pc2 := 189) (v := iI 202) C dX11_sets_186 (by decide) rfl ?_
              -- at 189: .iaload
              refine z_iald (pc2 := 190) (j := 202) C dX11_sets_189 (by first | exact hy.k _ | assumption) (by omega) (by omega) (by decide) rfl ?_
              rw [show up2 J2 46 k (((1 : Nat) : Int)) 35 202 = J 35 202 by rw [up2_row (by decide)]; exact e202, show up2 J2 46 k (((1 : Nat) : Int)) 47 1 = gR2 J c 1 k by rw [up2_row (by decide)]; exact hw5]
              have hmv1 := s_X11_moves (n := n) (K := K) (L := L) (R := R) (J := up2 J2 46 k (((1 : Nat) : Int))) (c := c) (k := k) (l := r) (ρ := J 35 202) hy (hm2.row (up2_row (by decide))) (by omega) (by omega) h1
              rw [show tR (up2 J2 46 k (((1 : Nat) : Int))) = tR J by rw [← eT]; unfold tR; rw [up2_row (by decide)], show bR (up2 J2 46 k (((1 : Nat) : Int))) = bR J by rw [← eB]; unfold bR; rw [up2_row (by decide)]] at hmv1
              refine w_cVi (pc2 := 193)  C dX11_sets_190 mb_X11_125 mv_X11_moves (hmv1) (by first | exact hy.k _ | assumption) rfl (by decide) rfl rfl (Nat.le_of_ble_eq_true rfl) ⟨by decide, by decide⟩ ⟨rfl, rfl⟩ ⟨by decide, by decide⟩ rfl ?_
              refine z_iadd (pc2 := 194) C dX11_sets_193 rfl ?_
              -- at 194: .iastore
              refine z_iast (pc2 := 195) (j := 1) C dX11_sets_194 (by first | exact hy.k _ | assumption) (by omega) (by omega) (by decide) rfl ?_
              refine w_iload (pc2 := 197) C dX11_sets_195 rfl rfl ?_
              -- at 197: .ifCond .ne 8
              refine z_if_ne (pc2 := 200) (tgt := 205) C dX11_sets_197 (by decide) rfl (by omega) (fun g3 => ?_) (fun g3 => ?_)
              · skip
                refine w_iload (pc2 := 207) C dX11_sets_205 rfl rfl ?_
                refine w_iconst (pc2 := 208) (v := iI 1) C dX11_sets_207 (by decide) rfl ?_
                -- at 208: .if_icmp .ne 8
                refine z_icmp_ne (pc2 := 211) (tgt := 216) C dX11_sets_208 (by decide) rfl (by omega) (by omega) (fun g4 => ?_) (fun g4 => ?_)
                · exact absurd rfl g4
                · skip
                  refine w_iload (pc2 := 213) C dX11_sets_211 rfl rfl ?_
                  refine w_iconst (pc2 := 214) (v := iI 1) C dX11_sets_213 (by decide) rfl ?_
                  refine z_iadd (pc2 := 215) C dX11_sets_214 rfl ?_
                  refine w_istore_n (pc2 := 216) C dX11_sets_215 rfl (by decide) rfl rfl ?_
                  try dsimp only [List.set]
                  refine w_iinc (pc2 := 219) C dX11_sets_216 rfl (iI_add _ _) rfl (by decide) rfl rfl ?_
                  try dsimp only [List.set]
                  refine w_goto (tgt := 42) C dX11_sets_219 (by decide) ?_
                  -- at 42: .iload 4
                  rw [show ((k : Int) + 1) = ((k + 1 : Nat) : Int) by omega]
                  refine w_drop (ihn _ (upd _ (fun a a1 a2 => by rw [up2_row a2, up2_row a1]) (fun i hi => by rw [up2_row (by decide), up2_n _ _ _ _ (by omega)]) (by rw [up2_row (by decide), up2_s]) (by rw [up2_n _ _ _ _ (by omega), up2_row (by decide), hw4, hg0]; omega) (by rw [up2_s, hg1]))) ⟨rfl, rfl, rfl, rfl, rfl, trivial⟩
              · exact absurd g3 (by decide)
            · exact absurd g2 (by decide)
        · subst e
          rw [if_neg (by decide), if_neg (by decide), show pR J c k = (l, r) by rw [← hl, ← hrr]] at ihn
          rw [if_neg (by decide)] at hg0
          rw [if_neg (by decide)] at hg1
          refine w_aload_n (pc2 := 147) C dX11_sets_146 rfl rfl ?_
          refine w_getR (pc2 := 150) C dX11_sets_147 fl_X11_46 (by first | exact hy.k _ | assumption) (by first | exact hy.r _ _ | assumption) rfl ?_
          refine w_iload (pc2 := 152) C dX11_sets_150 rfl rfl ?_
          refine w_iload (pc2 := 154) C dX11_sets_152 rfl rfl ?_
          -- at 154: .iastore
          refine z_iast (pc2 := 155) (j := k) C dX11_sets_154 (by first | exact hy.k _ | assumption) (by omega) (by omega) (by decide) rfl ?_
          refine w_iload (pc2 := 157) C dX11_sets_155 rfl rfl ?_
          refine w_iconst (pc2 := 158) (v := iI 2) C dX11_sets_157 (by decide) rfl ?_
          -- at 158: .if_icmp .ge 37
          refine z_icmp_ge (pc2 := 161) (tgt := 195) C dX11_sets_158 (by decide) rfl (by omega) (by omega) (fun g1 => ?_) (fun g1 => ?_)
          · skip
            refine w_iload (pc2 := 197) C dX11_sets_195 rfl rfl ?_
            -- at 197: .ifCond .ne 8
            refine z_if_ne (pc2 := 200) (tgt := 205) C dX11_sets_197 (by decide) rfl (by omega) (fun g3 => ?_) (fun g3 => ?_)
            · skip
              refine w_iload (pc2 := 207) C dX11_sets_205 rfl rfl ?_
              refine w_iconst (pc2 := 208) (v := iI 1) C dX11_sets_207 (by decide) rfl ?_
              -- at 208: .if_icmp .ne 8
              refine z_icmp_ne (pc2 := 211) (tgt := 216) C dX11_sets_208 (by decide) rfl (by omega) (by omega) (fun g4 => ?_) (fun g4 => ?_)
              · skip
                refine w_iinc (pc2 := 219) C dX11_sets_216 rfl (iI_add _ _) rfl (by decide) rfl rfl ?_
                try dsimp only [List.set]
                refine w_goto (tgt := 42) C dX11_sets_219 (by decide) ?_
                -- at 42: .iload 4
                rw [show ((k : Int) + 1) = ((k + 1 : Nat) : Int) by omega]
                refine w_drop (ihn _ (upd _ (fun a a1 a2 => by rw [up2_row a1]) (fun i hi => by rw [up2_n _ _ _ _ (by omega)]) (by rw [up2_s]) (by rw [up2_row (by decide), hw4, hg0]; omega) (by rw [up2_row (by decide), hw5, hg1]; omega))) ⟨rfl, rfl, rfl, rfl, rfl, trivial⟩
              · exact absurd g4 (by decide)
            · exact absurd g3 (by decide)
          · exact absurd g1 (by decide)
      have keyc : ∀ (dc ch : Nat), ch + dc = w → wp Γ 0 0 (QQ Γ post) 56 [some (.ref 34), some (.int (iI (oR J c c 0 0))), some (.int (iI l)), some (.int (iI r)), some (.int (iI k)), some (.int (iI ch))] [] n K (zw J2) L R := by
        intro dc
        induction dc with
        | zero =>
          intro ch hch
          have e : ch = w := by omega
          subst e
          obtain ⟨y1, y2, y3⟩ := hfst
          obtain ⟨z1, z2⟩ := y2
          have q1 := hbhb ch y1
          have q2 := hcsb ch y1
          have hFAR : FAR = 100000000 := rfl
          have hc1 := hcst ch y1
          generalize hcv : cst (tR J) (bR J) (J 35 202) (J 35 203) k l r ch = v at *
          refine w_aload_n (pc2 := 57) C dX11_sets_56 rfl rfl ?_
          refine w_iload (pc2 := 59) C dX11_sets_57 rfl rfl ?_
          refine w_iload_n (pc2 := 60) C dX11_sets_59 rfl rfl ?_
          refine w_iload_n (pc2 := 61) C dX11_sets_60 rfl rfl ?_
          refine w_iload (pc2 := 63) C dX11_sets_61 rfl rfl ?_
          refine w_aload_n (pc2 := 64) C dX11_sets_63 rfl rfl ?_
          refine w_getR (pc2 := 67) C dX11_sets_64 fl_X11_7 (by first | exact hy.k _ | assumption) (by first | exact hy.r _ _ | assumption) rfl ?_
          refine w_sipush (pc2 := 70) (v := iI 202) C dX11_sets_67 (by decide) rfl ?_
          -- at 70: .iaload
          refine z_iald (pc2 := 71) (j := 202) C dX11_sets_70 (by first | exact hy.k _ | assumption) (by omega) (by omega) (by decide) rfl ?_
          refine w_aload_n (pc2 := 72) C dX11_sets_71 rfl rfl ?_
          refine w_getR (pc2 := 75) C dX11_sets_72 fl_X11_7 (by first | exact hy.k _ | assumption) (by first | exact hy.r _ _ | assumption) rfl ?_
          refine w_sipush (pc2 := 78) (v := iI 203) C dX11_sets_75 (by decide) rfl ?_
          -- at 78: .iaload
          refine z_iald (pc2 := 79) (j := 203) C dX11_sets_78 (by first | exact hy.k _ | assumption) (by omega) (by omega) (by decide) rfl ?_
          rw [e202, e203]
          refine w_cVi (pc2 := 82)  C dX11_sets_79 mb_X11_132 mv_X11_costOf (hc1) (by first | exact hy.k _ | assumption) rfl (by decide) rfl rfl (Nat.le_of_ble_eq_true rfl) ⟨by decide, by decide⟩ ⟨rfl, rfl⟩ ⟨by decide, by decide⟩ rfl ?_
          refine w_ldc (pc2 := 84) C dX11_sets_82 kc_X11_120 rfl ?_
          -- at 84: .if_icmp .ge 56
          show wp Γ 0 0 _ _ _ [.int (iI 100000000), .int (iI v)] _ _ _ _ _
          refine z_icmp_ge (pc2 := 87) (tgt := 140) C dX11_sets_84 (by decide) rfl (by omega) (by omega) (fun g1 => ?_) (fun g1 => ?_)
          · exact absurd g1 (by omega)
          · skip
            refine w_aload_n (pc2 := 88) C dX11_sets_87 rfl rfl ?_
            refine w_iload (pc2 := 90) C dX11_sets_88 rfl rfl ?_
            refine w_iload_n (pc2 := 91) C dX11_sets_90 rfl rfl ?_
            refine w_iload_n (pc2 := 92) C dX11_sets_91 rfl rfl ?_
            refine w_iload (pc2 := 94) C dX11_sets_92 rfl rfl ?_
            refine w_aload_n (pc2 := 95) C dX11_sets_94 rfl rfl ?_
            refine w_getR (pc2 := 98) C dX11_sets_95 fl_X11_7 (by first | exact hy.k _ | assumption) (by first | exact hy.r _ _ | assumption) rfl ?_
            refine w_sipush (pc2 := 101) (v := iI 202) C dX11_sets_98 (by decide) rfl ?_
            -- at 101: .iaload
            refine z_iald (pc2 := 102) (j := 202) C dX11_sets_101 (by first | exact hy.k _ | assumption) (by omega) (by omega) (by decide) rfl ?_
            refine w_aload_n (pc2 := 103) C dX11_sets_102 rfl rfl ?_
            refine w_getR (pc2 := 106) C dX11_sets_103 fl_X11_7 (by first | exact hy.k _ | assumption) (by first | exact hy.r _ _ | assumption) rfl ?_
            refine w_sipush (pc2 := 109) (v := iI 203) C dX11_sets_106 (by decide) rfl ?_
            -- at 109: .iaload
            refine z_iald (pc2 := 110) (j := 203) C dX11_sets_109 (by first | exact hy.k _ | assumption) (by omega) (by omega) (by decide) rfl ?_
            rw [e202, e203]
            refine w_cVi (pc2 := 113)  C dX11_sets_110 mb_X11_132 mv_X11_costOf (hc1) (by first | exact hy.k _ | assumption) rfl (by decide) rfl rfl (Nat.le_of_ble_eq_true rfl) ⟨by decide, by decide⟩ ⟨rfl, rfl⟩ ⟨by decide, by decide⟩ rfl ?_
            refine w_aload_n (pc2 := 114) C dX11_sets_113 rfl rfl ?_
            refine w_iload (pc2 := 116) C dX11_sets_114 rfl rfl ?_
            refine w_iload_n (pc2 := 117) C dX11_sets_116 rfl rfl ?_
            refine w_iload_n (pc2 := 118) C dX11_sets_117 rfl rfl ?_
            refine w_iload (pc2 := 120) C dX11_sets_118 rfl rfl ?_
            -- at 120: .invokevirtual 136
            refine w_cVi (pc2 := 123)  C dX11_sets_120 mb_X11_136 mv_X11_behind (hbh ch y1) (by first | exact hy.k _ | assumption) rfl (by decide) rfl rfl (Nat.le_of_ble_eq_true rfl) ⟨by decide, by decide⟩ ⟨rfl, rfl⟩ ⟨by decide, by decide⟩ rfl ?_
            refine z_iadd (pc2 := 124) C dX11_sets_123 rfl ?_
            refine w_aload_n (pc2 := 125) C dX11_sets_124 rfl rfl ?_
            refine w_getR (pc2 := 128) C dX11_sets_125 fl_X11_43 (by first | exact hy.k _ | assumption) (by first | exact hy.r _ _ | assumption) rfl ?_
            refine w_aload_n (pc2 := 129) C dX11_sets_128 rfl rfl ?_
            refine w_iload (pc2 := 131) C dX11_sets_129 rfl rfl ?_
            refine w_iload_n (pc2 := 132) C dX11_sets_131 rfl rfl ?_
            refine w_iload_n (pc2 := 133) C dX11_sets_132 rfl rfl ?_
            -- at 133: .invokevirtual 129
            refine w_cVi (pc2 := 136)  C dX11_sets_133 mb_X11_129 mv_X11_place (s_X11_place) (by first | exact hy.k _ | assumption) rfl (by decide) rfl rfl (Nat.le_of_ble_eq_true rfl) ⟨by decide, by decide⟩ ⟨rfl, rfl⟩ ⟨by decide, by decide⟩ rfl ?_
            -- at 136: .iaload
            refine z_iald (pc2 := 137) (j := (k * 101 + l) * 101 + r) C dX11_sets_136 (by first | exact hy.k _ | assumption) (by omega) (by omega) (by decide) rfl ?_
            rw [hlst]
            refine z_icmp_eq (pc2 := 140) (tgt := 146) C dX11_sets_137 (by decide) rfl (by omega) (by omega) (fun g2 => ?_) (fun g2 => ?_)
            · exact fin
            · exact absurd z2 g2
        | succ dc ihc =>
          intro ch hch
          have y1 : ch ≤ 2 := by omega
          have y3 := hfst.2.2 ch (by omega)
          have q1 := hbhb ch y1
          have q2 := hcsb ch y1
          have hFAR : FAR = 100000000 := rfl
          have hc1 := hcst ch y1
          unfold gdC at y3
          have nx := ihc (ch + 1) (by omega)
          generalize hcv : cst (tR J) (bR J) (J 35 202) (J 35 203) k l r ch = v at *
          refine w_aload_n (pc2 := 57) C dX11_sets_56 rfl rfl ?_
          refine w_iload (pc2 := 59) C dX11_sets_57 rfl rfl ?_
          refine w_iload_n (pc2 := 60) C dX11_sets_59 rfl rfl ?_
          refine w_iload_n (pc2 := 61) C dX11_sets_60 rfl rfl ?_
          refine w_iload (pc2 := 63) C dX11_sets_61 rfl rfl ?_
          refine w_aload_n (pc2 := 64) C dX11_sets_63 rfl rfl ?_
          refine w_getR (pc2 := 67) C dX11_sets_64 fl_X11_7 (by first | exact hy.k _ | assumption) (by first | exact hy.r _ _ | assumption) rfl ?_
          refine w_sipush (pc2 := 70) (v := iI 202) C dX11_sets_67 (by decide) rfl ?_
          -- at 70: .iaload
          refine z_iald (pc2 := 71) (j := 202) C dX11_sets_70 (by first | exact hy.k _ | assumption) (by omega) (by omega) (by decide) rfl ?_
          refine w_aload_n (pc2 := 72) C dX11_sets_71 rfl rfl ?_
          refine w_getR (pc2 := 75) C dX11_sets_72 fl_X11_7 (by first | exact hy.k _ | assumption) (by first | exact hy.r _ _ | assumption) rfl ?_
          refine w_sipush (pc2 := 78) (v := iI 203) C dX11_sets_75 (by decide) rfl ?_
          -- at 78: .iaload
          refine z_iald (pc2 := 79) (j := 203) C dX11_sets_78 (by first | exact hy.k _ | assumption) (by omega) (by omega) (by decide) rfl ?_
          rw [e202, e203]
          refine w_cVi (pc2 := 82)  C dX11_sets_79 mb_X11_132 mv_X11_costOf (hc1) (by first | exact hy.k _ | assumption) rfl (by decide) rfl rfl (Nat.le_of_ble_eq_true rfl) ⟨by decide, by decide⟩ ⟨rfl, rfl⟩ ⟨by decide, by decide⟩ rfl ?_
          refine w_ldc (pc2 := 84) C dX11_sets_82 kc_X11_120 rfl ?_
          -- at 84: .if_icmp .ge 56
          show wp Γ 0 0 _ _ _ [.int (iI 100000000), .int (iI v)] _ _ _ _ _
          refine z_icmp_ge (pc2 := 87) (tgt := 140) C dX11_sets_84 (by decide) rfl (by omega) (by omega) (fun g1 => ?_) (fun g1 => ?_)
          · skip
            refine w_iinc (pc2 := 143) C dX11_sets_140 rfl (iI_add _ _) rfl (by decide) rfl rfl ?_
            try dsimp only [List.set]
            refine w_goto (tgt := 56) C dX11_sets_143 (by decide) ?_
            -- at 56: .aload_n 0
            exact nx
          · skip
            refine w_aload_n (pc2 := 88) C dX11_sets_87 rfl rfl ?_
            refine w_iload (pc2 := 90) C dX11_sets_88 rfl rfl ?_
            refine w_iload_n (pc2 := 91) C dX11_sets_90 rfl rfl ?_
            refine w_iload_n (pc2 := 92) C dX11_sets_91 rfl rfl ?_
            refine w_iload (pc2 := 94) C dX11_sets_92 rfl rfl ?_
            refine w_aload_n (pc2 := 95) C dX11_sets_94 rfl rfl ?_
            refine w_getR (pc2 := 98) C dX11_sets_95 fl_X11_7 (by first | exact hy.k _ | assumption) (by first | exact hy.r _ _ | assumption) rfl ?_
            refine w_sipush (pc2 := 101) (v := iI 202) C dX11_sets_98 (by decide) rfl ?_
            -- at 101: .iaload
            refine z_iald (pc2 := 102) (j := 202) C dX11_sets_101 (by first | exact hy.k _ | assumption) (by omega) (by omega) (by decide) rfl ?_
            refine w_aload_n (pc2 := 103) C dX11_sets_102 rfl rfl ?_
            refine w_getR (pc2 := 106) C dX11_sets_103 fl_X11_7 (by first | exact hy.k _ | assumption) (by first | exact hy.r _ _ | assumption) rfl ?_
            refine w_sipush (pc2 := 109) (v := iI 203) C dX11_sets_106 (by decide) rfl ?_
            -- at 109: .iaload
            refine z_iald (pc2 := 110) (j := 203) C dX11_sets_109 (by first | exact hy.k _ | assumption) (by omega) (by omega) (by decide) rfl ?_
            rw [e202, e203]
            refine w_cVi (pc2 := 113)  C dX11_sets_110 mb_X11_132 mv_X11_costOf (hc1) (by first | exact hy.k _ | assumption) rfl (by decide) rfl rfl (Nat.le_of_ble_eq_true rfl) ⟨by decide, by decide⟩ ⟨rfl, rfl⟩ ⟨by decide, by decide⟩ rfl ?_
            refine w_aload_n (pc2 := 114) C dX11_sets_113 rfl rfl ?_
            refine w_iload (pc2 := 116) C dX11_sets_114 rfl rfl ?_
            refine w_iload_n (pc2 := 117) C dX11_sets_116 rfl rfl ?_
            refine w_iload_n (pc2 := 118) C dX11_sets_117 rfl rfl ?_
            refine w_iload (pc2 := 120) C dX11_sets_118 rfl rfl ?_
            -- at 120: .invokevirtual 136
            refine w_cVi (pc2 := 123)  C dX11_sets_120 mb_X11_136 mv_X11_behind (hbh ch y1) (by first | exact hy.k _ | assumption) rfl (by decide) rfl rfl (Nat.le_of_ble_eq_true rfl) ⟨by decide, by decide⟩ ⟨rfl, rfl⟩ ⟨by decide, by decide⟩ rfl ?_
            refine z_iadd (pc2 := 124) C dX11_sets_123 rfl ?_
            refine w_aload_n (pc2 := 125) C dX11_sets_124 rfl rfl ?_
            refine w_getR (pc2 := 128) C dX11_sets_125 fl_X11_43 (by first | exact hy.k _ | assumption) (by first | exact hy.r _ _ | assumption) rfl ?_
            refine w_aload_n (pc2 := 129) C dX11_sets_128 rfl rfl ?_
            refine w_iload (pc2 := 131) C dX11_sets_129 rfl rfl ?_
            refine w_iload_n (pc2 := 132) C dX11_sets_131 rfl rfl ?_
            refine w_iload_n (pc2 := 133) C dX11_sets_132 rfl rfl ?_
            -- at 133: .invokevirtual 129
            refine w_cVi (pc2 := 136)  C dX11_sets_133 mb_X11_129 mv_X11_place (s_X11_place) (by first | exact hy.k _ | assumption) rfl (by decide) rfl rfl (Nat.le_of_ble_eq_true rfl) ⟨by decide, by decide⟩ ⟨rfl, rfl⟩ ⟨by decide, by decide⟩ rfl ?_
            -- at 136: .iaload
            refine z_iald (pc2 := 137) (j := (k * 101 + l) * 101 + r) C dX11_sets_136 (by first | exact hy.k _ | assumption) (by omega) (by omega) (by decide) rfl ?_
            rw [hlst]
            refine z_icmp_eq (pc2 := 140) (tgt := 146) C dX11_sets_137 (by decide) rfl (by omega) (by omega) (fun g2 => ?_) (fun g2 => ?_)
            · exact absurd ⟨by omega, g2⟩ y3
            · skip
              refine w_iinc (pc2 := 143) C dX11_sets_140 rfl (iI_add _ _) rfl (by decide) rfl rfl ?_
              try dsimp only [List.set]
              refine w_goto (tgt := 56) C dX11_sets_143 (by decide) ?_
              -- at 56: .aload_n 0
              exact nx
      refine w_iload (pc2 := 44) C dX11_sets_42 rfl rfl ?_
      refine w_aload_n (pc2 := 45) C dX11_sets_44 rfl rfl ?_
      refine w_getR (pc2 := 48) C dX11_sets_45 fl_X11_7 (by first | exact hy.k _ | assumption) (by first | exact hy.r _ _ | assumption) rfl ?_
      refine w_iconst (pc2 := 49) (v := iI 0) C dX11_sets_48 (by decide) rfl ?_
      -- at 49: .iaload
      refine z_iald (pc2 := 50) (j := 0) C dX11_sets_49 (by first | exact hy.k _ | assumption) (by omega) (by omega) (by decide) rfl ?_
      rw [e0]
      refine z_icmp_ge (pc2 := 53) (tgt := 222) C dX11_sets_50 (by decide) rfl (by omega) (by omega) (fun g1 => ?_) (fun g1 => ?_)
      · exact absurd g1 (by omega)
      · skip
        refine w_iconst (pc2 := 54) (v := iI 0) C dX11_sets_53 (by decide) rfl ?_
        refine w_istore (pc2 := 56) C dX11_sets_54 rfl (by decide) rfl rfl ?_
        try dsimp only [List.set]
        -- at 56: .aload_n 0
        exact keyc w 0 (by omega)
  refine w_aload_n (pc2 := 1) C dX11_sets_0 rfl rfl ?_
  refine w_aload_n (pc2 := 2) C dX11_sets_1 rfl rfl ?_
  refine w_getR (pc2 := 5) C dX11_sets_2 fl_X11_7 (by first | exact hy.k _ | assumption) (by first | exact hy.r _ _ | assumption) rfl ?_
  refine w_sipush (pc2 := 8) (v := iI 202) C dX11_sets_5 (by decide) rfl ?_
  -- at 8: .iaload
  refine z_iald (pc2 := 9) (j := 202) C dX11_sets_8 (by first | exact hy.k _ | assumption) (by omega) (by omega) (by decide) rfl ?_
  refine w_aload_n (pc2 := 10) C dX11_sets_9 rfl rfl ?_
  refine w_getR (pc2 := 13) C dX11_sets_10 fl_X11_7 (by first | exact hy.k _ | assumption) (by first | exact hy.r _ _ | assumption) rfl ?_
  refine w_sipush (pc2 := 16) (v := iI 203) C dX11_sets_13 (by decide) rfl ?_
  -- at 16: .iaload
  refine z_iald (pc2 := 17) (j := 203) C dX11_sets_16 (by first | exact hy.k _ | assumption) (by omega) (by omega) (by decide) rfl ?_
  refine w_gV (pc2 := 20)  C dX11_sets_17 mb_X11_140 mv_X11_weighs (s_X11_weighs hy hm h1 ⟨h2.1, by unfold FAR; omega⟩) (by first | exact hy.k _ | assumption) rfl (by decide) rfl rfl (Nat.le_of_ble_eq_true rfl) ⟨by decide, by decide⟩ ⟨rfl, rfl⟩ ⟨by decide, by decide⟩ rfl ?_
  rintro r2 n2 K2 I2 L2 R2 ⟨J2, hD, a1, a2⟩
  obtain ⟨d1, d2, d3, d4, d5, d6⟩ := hD
  replace d2 := d2.symm
  replace d3 := d3.symm
  replace d5 := d5.symm
  replace d6 := d6.symm
  subst d1
  subst d2
  subst d3
  subst d4
  subst d5
  subst d6
  refine w_istore_n (pc2 := 21) C dX11_sets_20 rfl (by decide) rfl rfl ?_
  try dsimp only [List.set]
  refine w_iconst (pc2 := 22) (v := iI 0) C dX11_sets_21 (by decide) rfl ?_
  refine w_istore_n (pc2 := 23) C dX11_sets_22 rfl (by decide) rfl rfl ?_
  try dsimp only [List.set]
  refine w_iconst (pc2 := 24) (v := iI 0) C dX11_sets_23 (by decide) rfl ?_
  refine w_istore_n (pc2 := 25) C dX11_sets_24 rfl (by decide) rfl rfl ?_
  try dsimp only [List.set]
  refine w_aload_n (pc2 := 26) C dX11_sets_25 rfl rfl ?_
  refine w_getR (pc2 := 29) C dX11_sets_26 fl_X11_49 (by first | exact hy.k _ | assumption) (by first | exact hy.r _ _ | assumption) rfl ?_
  refine w_iconst (pc2 := 30) (v := iI 0) C dX11_sets_29 (by decide) rfl ?_
  refine w_iconst (pc2 := 31) (v := iI 0) C dX11_sets_30 (by decide) rfl ?_
  -- at 31: .iastore
  refine z_iast (pc2 := 32) (j := 0) C dX11_sets_31 (by first | exact hy.k _ | assumption) (by omega) (by omega) (by decide) rfl ?_
  refine w_aload_n (pc2 := 33) C dX11_sets_32 rfl rfl ?_
  refine w_getR (pc2 := 36) C dX11_sets_33 fl_X11_49 (by first | exact hy.k _ | assumption) (by first | exact hy.r _ _ | assumption) rfl ?_
  refine w_iconst (pc2 := 37) (v := iI 1) C dX11_sets_36 (by decide) rfl ?_
  refine w_iconst (pc2 := 38) (v := iI 0) C dX11_sets_37 (by decide) rfl ?_
  -- at 38: .iastore
  refine z_iast (pc2 := 39) (j := 1) C dX11_sets_38 (by first | exact hy.k _ | assumption) (by omega) (by omega) (by decide) rfl ?_
  refine w_iconst (pc2 := 40) (v := iI 0) C dX11_sets_39 (by decide) rfl ?_
  refine w_istore (pc2 := 42) C dX11_sets_40 rfl (by decide) rfl rfl ?_
  try dsimp only [List.set]
  -- at 42: .iload 4
  refine w_drop (key c 0 _ (by omega) ⟨fun a b1 b2 b3 => by rw [up2_row b3, up2_row b3]; exact a1 a b1, a2.row (by rw [up2_row (by decide), up2_row (by decide)]), fun i hi => absurd hi (Nat.not_lt_zero _), by rw [up2_n _ _ _ _ (by omega), up2_s]; rfl, by rw [up2_s]; rfl⟩) ⟨rfl, rfl, rfl, rfl, rfl, trivial⟩
end SETS
