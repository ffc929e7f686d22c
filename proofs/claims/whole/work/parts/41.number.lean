/-- the FAULT told by a reading, if there was none before -/
def fk1 (J : wJn) (r : Flt ⊕ (Int × Nat × Nat)) : Int := if J 3 1 = 0 then (match r with
  | .inl f => f.1
  | .inr _ => 0) else J 3 1
def fp1 (J : wJn) (r : Flt ⊕ (Int × Nat × Nat)) : Int := if J 3 1 = 0 then (match r with
  | .inl f => (f.2 : Int)
  | .inr _ => J 3 2) else J 3 2
/-- what readNumber leaves -/
def RdN (J J2 : wJn) (s : Nat → Int) (t p : Nat) (lo hi : Int) : Prop := (∀ a, a ≠ 3 → J2 a = J a) ∧ (∀ b, b ≠ 1 → b ≠ 2 → b ≠ 9 → b ≠ 10 → J2 3 b = J 3 b) ∧ J2 3 9 = ((nb s t p + dgN s (nb s t p) : Nat) : Int) ∧ J2 3 10 = (nb s t p : Nat) ∧ J2 3 1 = fk1 J (num s t p lo hi) ∧ J2 3 2 = fp1 J (num s t p lo hi)
section NUMBER
variable {n : Nat} {K : wKd} {J : wJn} {L : wLn} {R : wRf}
theorem s_X4_readNumber (hy : Ly K R) {s : Nat → Int} {t p : Nat} {lo hi : Int} (hlo : R32 lo) (hhi : R32 hi) (hT : Txt J s t) (hp : J 3 9 = p) (hpt : p ≤ t) (hf : R32 (J 3 1)) : S_X4_readNumber [.ref 3, .int (iI lo), .int (iI hi)] n K (zw J) L R (fun r2 n2 K2 I2 L2 R2 => ∃ J2 : wJn, Det (some (.int (iI (nvF s (nb s t p) (dgN s (nb s t p)))))) n K (zw J2) L R r2 n2 K2 I2 L2 R2 ∧ RdN J J2 s t p lo hi) := by
  have h2 := hT.2.1
  have h3 := h2.1
  have hql := nb_le (s := s) hpt
  have hdl := dgN_le s (nb s t p)
  have hde := dg_le h2 hql
  have hnv := nvF_bd3 s (nb s t p)
  refine Sp_intro [some (.ref 3), some (.int (iI lo)), some (.int (iI hi)), none, none, none] rfl rfl (Nat.le_of_ble_eq_true rfl) rfl ?_
  intro Γ C
  replace C : C_X4_readNumber Γ := C
  generalize hpost : (fun (r2 : Option Value) (n2 : Nat) (K2 : wKd) (I2 : wIn) (L2 : wLn) (R2 : wRf) => ∃ J2 : wJn, Det (some (.int (iI (nvF s (nb s t p) (dgN s (nb s t p)))))) n K (zw J2) L R r2 n2 K2 I2 L2 R2 ∧ RdN J J2 s t p lo hi) = post
  have hnum : num s t p lo hi = (if dgN s (nb s t p) = 0 ∨ (48 ≤ s (nb s t p + dgN s (nb s t p)) ∧ s (nb s t p + dgN s (nb s t p)) ≤ 57) then .inl (1, nb s t p + dgN s (nb s t p)) else if nvF s (nb s t p) (dgN s (nb s t p)) < lo ∨ hi < nvF s (nb s t p) (dgN s (nb s t p)) then .inl (2, nb s t p) else .inr (nvF s (nb s t p) (dgN s (nb s t p)), nb s t p, nb s t p + dgN s (nb s t p))) := rfl
  generalize hq : nb s t p = q at *
  generalize hd : dgN s q = d at *
  -- what stands behind the digits
  have fin : ∀ J3 : wJn, J3 = up2 (up2 J 3 10 q) 3 9 ((q + d : Nat) : Int) → wp Γ 0 0 (QQ Γ post) 65 [some (.ref 3), some (.int (iI lo)), some (.int (iI hi)), some (.int (iI (s (q + d)))), some (.int (iI (nvF s q d))), some (.int (iI d))] [] n K (zw J3) L R := by
    intro J3 eJ
    have c0 : ∀ a, a ≠ 3 → J3 a = J a := fun a ha => by rw [eJ, up2_row ha, up2_row ha]
    have c9 : J3 3 9 = ((q + d : Nat) : Int) := by rw [eJ, up2_s]
    have c10 : J3 3 10 = q := by rw [eJ, up2_n _ _ _ _ (by omega), up2_s]
    have cb : ∀ b, b ≠ 9 → b ≠ 10 → J3 3 b = J 3 b := fun b h9 h10 => by rw [eJ, up2_n _ _ _ _ (by omega), up2_n _ _ _ _ (by omega)]
    have hb := h2.bd (q + d)
    have fin1 : (d = 0 ∨ (48 ≤ s (q + d) ∧ s (q + d) ≤ 57)) → wp Γ 0 0 (QQ Γ post) 77 [some (.ref 3), some (.int (iI lo)), some (.int (iI hi)), some (.int (iI (s (q + d)))), some (.int (iI (nvF s q d))), some (.int (iI d))] [] n K (zw J3) L R := by
      intro hc
      rw [if_pos hc] at hnum
      refine w_aload_n (pc2 := 78) C dX4_readNumber_77 rfl rfl ?_
      refine w_iconst (pc2 := 79) (v := iI 1) C dX4_readNumber_78 (by decide) rfl ?_
      refine w_aload_n (pc2 := 80) C dX4_readNumber_79 rfl rfl ?_
      refine z_getI (pc2 := 83) C dX4_readNumber_80 fl_X4_61 (by first | exact hy.k _ | assumption) rfl ?_
      -- at 83: .invokevirtual 64
      rw [c9]
      refine w_cVv (pc2 := 86)  C dX4_readNumber_83 mb_X4_64 mv_X4_fail (s_X4_fail hy (by rw [cb 1 (by decide) (by decide)]; exact hf)) (by first | exact hy.k _ | assumption) rfl (by decide) rfl rfl (Nat.le_of_ble_eq_true rfl) ⟨by decide, by decide⟩ ⟨rfl, rfl⟩ ⟨by decide, by decide⟩ rfl ?_
      refine w_goto (tgt := 110) C dX4_readNumber_86 (by decide) ?_
      refine w_iload (pc2 := 112) C dX4_readNumber_110 rfl rfl ?_
      -- at 112: .ireturn
      exact w_iret C dX4_readNumber_112 (by decide) (by decide) (by
        rw [← hpost]
        refine ⟨_, DetI rfl rfl, fun a ha => by rw [flJ_row ha]; exact c0 a ha, fun b b1 b2 b9 b10 => by rw [flJ_f b1 b2]; exact cb b b9 b10, by rw [flJ_f (by decide) (by decide), hq, hd]; exact c9, by rw [flJ_f (by decide) (by decide), hq]; exact c10, ?_, ?_⟩
        · rw [flJ_1, hnum, fk1, cb 1 (by decide) (by decide)]
        · rw [flJ_2, hnum, fp1, cb 1 (by decide) (by decide), cb 2 (by decide) (by decide)])
    have fin2 : ¬ (d = 0 ∨ (48 ≤ s (q + d) ∧ s (q + d) ≤ 57)) → (nvF s q d < lo ∨ hi < nvF s q d) → wp Γ 0 0 (QQ Γ post) 101 [some (.ref 3), some (.int (iI lo)), some (.int (iI hi)), some (.int (iI (s (q + d)))), some (.int (iI (nvF s q d))), some (.int (iI d))] [] n K (zw J3) L R := by
      intro hc hc2
      rw [if_neg hc, if_pos hc2] at hnum
      refine w_aload_n (pc2 := 102) C dX4_readNumber_101 rfl rfl ?_
      refine w_iconst (pc2 := 103) (v := iI 2) C dX4_readNumber_102 (by decide) rfl ?_
      refine w_aload_n (pc2 := 104) C dX4_readNumber_103 rfl rfl ?_
      refine z_getI (pc2 := 107) C dX4_readNumber_104 fl_X4_122 (by first | exact hy.k _ | assumption) rfl ?_
      -- at 107: .invokevirtual 64
      rw [c10]
      refine w_cVv (pc2 := 110)  C dX4_readNumber_107 mb_X4_64 mv_X4_fail (s_X4_fail hy (by rw [cb 1 (by decide) (by decide)]; exact hf)) (by first | exact hy.k _ | assumption) rfl (by decide) rfl rfl (Nat.le_of_ble_eq_true rfl) ⟨by decide, by decide⟩ ⟨rfl, rfl⟩ ⟨by decide, by decide⟩ rfl ?_
      refine w_iload (pc2 := 112) C dX4_readNumber_110 rfl rfl ?_
      -- at 112: .ireturn
      exact w_iret C dX4_readNumber_112 (by decide) (by decide) (by
        rw [← hpost]
        refine ⟨_, DetI rfl rfl, fun a ha => by rw [flJ_row ha]; exact c0 a ha, fun b b1 b2 b9 b10 => by rw [flJ_f b1 b2]; exact cb b b9 b10, by rw [flJ_f (by decide) (by decide), hq, hd]; exact c9, by rw [flJ_f (by decide) (by decide), hq]; exact c10, ?_, ?_⟩
        · rw [flJ_1, hnum, fk1, cb 1 (by decide) (by decide)]
        · rw [flJ_2, hnum, fp1, cb 1 (by decide) (by decide), cb 2 (by decide) (by decide)])
    have fin3 : ¬ (d = 0 ∨ (48 ≤ s (q + d) ∧ s (q + d) ≤ 57)) → wp Γ 0 0 (QQ Γ post) 89 [some (.ref 3), some (.int (iI lo)), some (.int (iI hi)), some (.int (iI (s (q + d)))), some (.int (iI (nvF s q d))), some (.int (iI d))] [] n K (zw J3) L R := by
      intro hc
      refine w_iload (pc2 := 91) C dX4_readNumber_89 rfl rfl ?_
      refine w_iload_n (pc2 := 92) C dX4_readNumber_91 rfl rfl ?_
      -- at 92: .if_icmp .lt 9
      refine z_icmp_lt (pc2 := 95) (tgt := 101) C dX4_readNumber_92 (by decide) rfl (by omega) (by omega) (fun g1 => ?_) (fun g1 => ?_)
      · exact fin2 hc (Or.inl g1)
      · skip
        refine w_iload (pc2 := 97) C dX4_readNumber_95 rfl rfl ?_
        refine w_iload_n (pc2 := 98) C dX4_readNumber_97 rfl rfl ?_
        -- at 98: .if_icmp .le 12
        refine z_icmp_le (pc2 := 101) (tgt := 110) C dX4_readNumber_98 (by decide) rfl (by omega) (by omega) (fun g2 => ?_) (fun g2 => ?_)
        · rw [if_neg hc, if_neg (by omega)] at hnum
          refine w_iload (pc2 := 112) C dX4_readNumber_110 rfl rfl ?_
          -- at 112: .ireturn
          exact w_iret C dX4_readNumber_112 (by decide) (by decide) (by
            rw [← hpost]
            refine ⟨_, DetI rfl rfl, c0, fun b b1 b2 b9 b10 => cb b b9 b10, by rw [hq, hd]; exact c9, by rw [hq]; exact c10, ?_, ?_⟩
            · rw [hnum, fk1, cb 1 (by decide) (by decide)]; split <;> simp_all
            · rw [hnum, fp1, cb 2 (by decide) (by decide)]; split <;> rfl)
        · exact fin2 hc (Or.inr (by omega))
    refine w_iload (pc2 := 67) C dX4_readNumber_65 rfl rfl ?_
    -- at 67: .ifCond .eq 10
    refine z_if_eq (pc2 := 70) (tgt := 77) C dX4_readNumber_67 (by decide) rfl (by omega) (fun g1 => ?_) (fun g1 => ?_)
    · exact fin1 (Or.inl (by omega))
    · skip
      refine w_iload_n (pc2 := 71) C dX4_readNumber_70 rfl rfl ?_
      -- at 71: .invokestatic 43
      refine w_cSi (pc2 := 74)  C dX4_readNumber_71 mb_X4_43 ms_X4_isDigit (s_X4_isDigit (by omega)) rfl rfl (Nat.le_of_ble_eq_true rfl) ⟨by decide, by decide⟩ ⟨rfl, rfl⟩ ⟨by decide, by decide⟩ rfl ?_
      -- at 74: .ifCond .eq 15
      refine z_if_eq (pc2 := 77) (tgt := 89) C dX4_readNumber_74 (by decide) rfl (by split <;> omega) (fun g2 => ?_) (fun g2 => ?_)
      · have g3 : ¬ (48 ≤ s (q + d) ∧ s (q + d) ≤ 57) := fun z => by rw [if_pos z] at g2; exact absurd g2 (by decide)
        exact fin3 (by omega)
      · have g3 : 48 ≤ s (q + d) ∧ s (q + d) ≤ 57 := by
          rcases Decidable.em (48 ≤ s (q + d) ∧ s (q + d) ≤ 57) with z | z
          · exact z
          · rw [if_neg z] at g2; exact absurd rfl g2
        exact fin1 (Or.inr g3)
  have key : ∀ (f i : Nat) (J3 : wJn), i + f = d → J3 = up2 (up2 J 3 10 q) 3 9 ((q + i : Nat) : Int) → wp Γ 0 0 (QQ Γ post) 19 [some (.ref 3), some (.int (iI lo)), some (.int (iI hi)), some (.int (iI (s (q + i)))), some (.int (iI (nvF s q i))), some (.int (iI i))] [] n K (zw J3) L R := by
    intro f
    induction f with
    | zero =>
      intro i J3 hi eJ
      have e : i = d := by omega
      subst e
      have hb := h2.bd (q + i)
      refine w_iload (pc2 := 21) C dX4_readNumber_19 rfl rfl ?_
      refine w_iconst (pc2 := 22) (v := iI 3) C dX4_readNumber_21 (by decide) rfl ?_
      -- at 22: .if_icmp .ge 43
      refine z_icmp_ge (pc2 := 25) (tgt := 65) C dX4_readNumber_22 (by decide) rfl (by omega) (by omega) (fun g1 => ?_) (fun g1 => ?_)
      · exact fin J3 eJ
      · skip
        refine w_iload_n (pc2 := 26) C dX4_readNumber_25 rfl rfl ?_
        -- at 26: .invokestatic 43
        refine w_cSi (pc2 := 29)  C dX4_readNumber_26 mb_X4_43 ms_X4_isDigit (s_X4_isDigit (by omega)) rfl rfl (Nat.le_of_ble_eq_true rfl) ⟨by decide, by decide⟩ ⟨rfl, rfl⟩ ⟨by decide, by decide⟩ rfl ?_
        -- at 29: .ifCond .eq 36
        refine z_if_eq (pc2 := 32) (tgt := 65) C dX4_readNumber_29 (by decide) rfl (by split <;> omega) (fun g2 => ?_) (fun g2 => ?_)
        · exact fin J3 eJ
        · have g3 : 48 ≤ s (q + i) ∧ s (q + i) ≤ 57 := by
            rcases Decidable.em (48 ≤ s (q + i) ∧ s (q + i) ≤ 57) with z | z
            · exact z
            · rw [if_neg z] at g2; exact absurd rfl g2
          have := dgN_end (s := s) (q := q) (by rw [hd]; omega)
          rw [hd] at this
          exact absurd g3 this
    | succ f ih =>
      intro i J3 hi eJ
      have hb := h2.bd (q + i)
      have hin := dgN_in (s := s) (q := q) i (by rw [hd]; omega)
      have hT3 : Txt (up2 J3 3 9 (J3 3 9 + 1)) s t := hT.rows (by rw [up2_row (by decide), eJ, up2_row (by decide), up2_row (by decide)]) (by rw [up2_row (by decide), eJ, up2_row (by decide), up2_row (by decide)])
      have c9 : J3 3 9 = ((q + i : Nat) : Int) := by rw [eJ, up2_s]
      refine w_iload (pc2 := 21) C dX4_readNumber_19 rfl rfl ?_
      refine w_iconst (pc2 := 22) (v := iI 3) C dX4_readNumber_21 (by decide) rfl ?_
      -- at 22: .if_icmp .ge 43
      refine z_icmp_ge (pc2 := 25) (tgt := 65) C dX4_readNumber_22 (by decide) rfl (by omega) (by omega) (fun g1 => ?_) (fun g1 => ?_)
      · exact absurd hi (by omega)
      · skip
        refine w_iload_n (pc2 := 26) C dX4_readNumber_25 rfl rfl ?_
        -- at 26: .invokestatic 43
        refine w_cSi (pc2 := 29)  C dX4_readNumber_26 mb_X4_43 ms_X4_isDigit (s_X4_isDigit (by omega)) rfl rfl (Nat.le_of_ble_eq_true rfl) ⟨by decide, by decide⟩ ⟨rfl, rfl⟩ ⟨by decide, by decide⟩ rfl ?_
        -- at 29: .ifCond .eq 36
        refine z_if_eq (pc2 := 32) (tgt := 65) C dX4_readNumber_29 (by decide) rfl (by split <;> omega) (fun g2 => ?_) (fun g2 => ?_)
        · rw [if_pos hin] at g2; exact absurd g2 (by decide)
        · skip
          refine w_iload (pc2 := 34) C dX4_readNumber_32 rfl rfl ?_
          refine w_bipush (pc2 := 36) (v := iI 10) C dX4_readNumber_34 (by decide) rfl ?_
          refine z_imul (pc2 := 37) C dX4_readNumber_36 rfl ?_
          refine w_iload_n (pc2 := 38) C dX4_readNumber_37 rfl rfl ?_
          refine z_iadd (pc2 := 39) C dX4_readNumber_38 rfl ?_
          refine w_bipush (pc2 := 41) (v := iI 48) C dX4_readNumber_39 (by decide) rfl ?_
          refine z_isub (pc2 := 42) C dX4_readNumber_41 rfl ?_
          refine w_istore (pc2 := 44) C dX4_readNumber_42 rfl (by decide) rfl rfl ?_
          try dsimp only [List.set]
          refine w_iinc (pc2 := 47) C dX4_readNumber_44 rfl (iI_add _ _) rfl (by decide) rfl rfl ?_
          try dsimp only [List.set]
          refine w_aload_n (pc2 := 48) C dX4_readNumber_47 rfl rfl ?_
          refine w_dup (pc2 := 49) C dX4_readNumber_48 rfl rfl ?_
          refine z_getI (pc2 := 52) C dX4_readNumber_49 fl_X4_61 (by first | exact hy.k _ | assumption) rfl ?_
          refine w_iconst (pc2 := 53) (v := iI 1) C dX4_readNumber_52 (by decide) rfl ?_
          refine z_iadd (pc2 := 54) C dX4_readNumber_53 rfl ?_
          refine z_putI (pc2 := 57) C dX4_readNumber_54 fl_X4_61 (by first | exact hy.k _ | assumption) (by rfl) (by rfl) rfl ?_
          refine w_aload_n (pc2 := 58) C dX4_readNumber_57 rfl rfl ?_
          -- at 58: .invokevirtual 131
          refine w_cVi (pc2 := 61)  C dX4_readNumber_58 mb_X4_131 mv_X4_signHere (s_X4_signHere hy hT3 (p := q + (i + 1)) (by rw [up2_s, c9]; omega) (by omega)) (by first | exact hy.k _ | assumption) rfl (by decide) rfl rfl (Nat.le_of_ble_eq_true rfl) ⟨by decide, by decide⟩ ⟨rfl, rfl⟩ ⟨by decide, by decide⟩ rfl ?_
          refine w_istore_n (pc2 := 62) C dX4_readNumber_61 rfl (by decide) rfl rfl ?_
          try dsimp only [List.set]
          refine w_goto (tgt := 19) C dX4_readNumber_62 (by decide) ?_
          -- at 19: .iload 5
          exact ih (i + 1) _ (by omega) (by rw [c9, eJ, up2_up2]; congr 1)
  refine w_aload_n (pc2 := 1) C dX4_readNumber_0 rfl rfl ?_
  -- at 1: .invokevirtual 39
  refine w_cVi (pc2 := 4)  C dX4_readNumber_1 mb_X4_39 mv_X4_nextSign (s_X4_nextSign hy hT hp hpt) (by first | exact hy.k _ | assumption) rfl (by decide) rfl rfl (Nat.le_of_ble_eq_true rfl) ⟨by decide, by decide⟩ ⟨rfl, rfl⟩ ⟨by decide, by decide⟩ rfl ?_
  rw [hq]
  refine w_istore_n (pc2 := 5) C dX4_readNumber_4 rfl (by decide) rfl rfl ?_
  try dsimp only [List.set]
  refine w_aload_n (pc2 := 6) C dX4_readNumber_5 rfl rfl ?_
  refine w_aload_n (pc2 := 7) C dX4_readNumber_6 rfl rfl ?_
  refine z_getI (pc2 := 10) C dX4_readNumber_7 fl_X4_61 (by first | exact hy.k _ | assumption) rfl ?_
  refine z_putI (pc2 := 13) C dX4_readNumber_10 fl_X4_122 (by first | exact hy.k _ | assumption) (by rfl) (by rfl) rfl ?_
  refine w_iconst (pc2 := 14) (v := iI 0) C dX4_readNumber_13 (by decide) rfl ?_
  refine w_istore (pc2 := 16) C dX4_readNumber_14 rfl (by decide) rfl rfl ?_
  try dsimp only [List.set]
  refine w_iconst (pc2 := 17) (v := iI 0) C dX4_readNumber_16 (by decide) rfl ?_
  refine w_istore (pc2 := 19) C dX4_readNumber_17 rfl (by decide) rfl rfl ?_
  try dsimp only [List.set]
  -- at 19: .iload 5
  rw [up2_s]
  refine key d 0 _ (by omega) ?_
  funext a b
  simp only [up2]
  by_cases e1 : a = 3 ∧ b = 9
  · obtain ⟨rfl, rfl⟩ := e1; simp
  · by_cases e2 : a = 3 ∧ b = 10
    · obtain ⟨rfl, rfl⟩ := e2; simp
    · simp only [if_neg e1, if_neg e2]
end NUMBER
