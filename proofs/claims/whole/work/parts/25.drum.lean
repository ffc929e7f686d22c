/-! ===== the drum, by the class ===== -/
def pst (J : wJn) (t : Int) (k : Nat) : Int := if J 13 k + t < J 18 3 then J 13 k + t else J 13 k + t - J 18 3
/-- pins told by the SCORE, turned by t -/
def pdJ (J : wJn) (t : Int) (j : Nat) : wJn := ov (ov J 19 (pst J t) j) 20 (J 14) j
theorem ov_comm {J : wJn} {r i k j : Nat} {f : Nat → Int} {x : Int} (h : i ≠ r) : up2 (ov J r f j) i k x = ov (up2 J i k x) r f j := by
  funext a b
  simp only [up2, ov]
  by_cases h1 : a = i
  · by_cases h2 : b = k
    · simp [h1, h2, h]
    · simp [h1, h2, h]
  · simp [h1]
theorem pdJ_up {J : wJn} {t : Int} {j : Nat} : up2 (up2 (pdJ J t j) 19 j (pst J t j)) 20 j (J 14 j) = pdJ J t (j + 1) := by
  unfold pdJ
  rw [ov_comm (by decide), ov_up, ov_up]
theorem pdJ_row {J : wJn} {t : Int} {j a : Nat} (h1 : a ≠ 19) (h2 : a ≠ 20) : pdJ J t j a = J a := by
  unfold pdJ
  rw [ov_row h2, ov_row h1]
theorem pdJ_0 {J : wJn} {t : Int} : pdJ J t 0 = J := by
  unfold pdJ
  rw [ov_0, ov_0]
/-- where a pin p asks a STRIKE k to be turned -/
def shf (J : wJn) (p k : Nat) : Int := if 0 ≤ J 19 p - J 13 k then J 19 p - J 13 k else J 19 p - J 13 k + J 18 3
def kAdd (J : wJn) (p k : Nat) : wJn := if J 14 k = J 20 p then up2 J 33 (shf J p k).toNat (J 33 (shf J p k).toNat + 1) else J
def kIn (J : wJn) (p : Nat) : Nat → wJn
  | 0 => J
  | k + 1 => kAdd (kIn J p k) p k
def kOut (J : wJn) (c : Nat) : Nat → wJn
  | 0 => J
  | p + 1 => kIn (kOut J c p) p c
theorem kAdd_row {J : wJn} {p k a : Nat} (h : a ≠ 33) : kAdd J p k a = J a := by
  unfold kAdd
  split
  · exact up2_row h
  · rfl
theorem kIn_row {J : wJn} {p a : Nat} (h : a ≠ 33) : ∀ k, kIn J p k a = J a
  | 0 => rfl
  | k + 1 => by simp only [kIn]; rw [kAdd_row h, kIn_row h k]
theorem kOut_row {J : wJn} {c a : Nat} (h : a ≠ 33) : ∀ p, kOut J c p a = J a
  | 0 => rfl
  | p + 1 => by simp only [kOut]; rw [kIn_row h, kOut_row h p]
def bestF (f : Nat → Int) : Nat → Nat
  | 0 => 0
  | j + 1 => if f (bestF f j) < f j then j else bestF f j
theorem bestF_lt (f : Nat → Int) : ∀ j, 0 < j → bestF f j < j
  | 0, h => absurd h (by omega)
  | 1, _ => by simp [bestF]
  | j + 2, _ => by
    have := bestF_lt f (j + 1) (by omega)
    rw [bestF]
    split <;> omega
/-- THE DRUM's pins and steps are as they should be -/
def Pin (J : wJn) (m : Nat) (s : Nat) : Prop := J 18 2 = m ∧ m ≤ 100 ∧ J 18 3 = s ∧ 1 ≤ s ∧ s ≤ 2063 ∧ ∀ p, p < m → 0 ≤ J 19 p ∧ J 19 p < s ∧ 0 ≤ J 20 p ∧ J 20 p < 24
def zeroK (J : wJn) (s : Nat) : wJn := ov J 33 (fun _ => 0) s
def findJ (J : wJn) (c m s : Nat) : wJn :=
  let J1 := kOut (zeroK J s) c m
  let b := bestF (J1 33) s
  up2 (up2 J1 32 0 b) 32 1 (J1 33 b)
section DRUM
variable {n : Nat} {K : wKd} {J : wJn} {L : wLn} {R : wRf}
theorem s_X1_fits (hy : Ly K R) {c : Nat} (hm : Mus J c) (hs : R32 (J 18 3)) : S_X1_fits [.ref 18, .ref 12] n K (zw J) L R (Det (some (.int (iI (if c = 0 ∨ J 13 (c - 1) < J 18 3 then 1 else 0)))) n K (zw J) L R) := by
  have hc := hm.1
  have hc2 := hm.2.1
  refine Sp_intro [some (.ref 18), some (.ref 12)] rfl rfl (Nat.le_of_ble_eq_true rfl) rfl ?_
  intro Γ C
  replace C : C_X1_fits Γ := C
  refine w_aload_n (pc2 := 1) C dX1_fits_0 rfl rfl ?_
  refine z_getI (pc2 := 4) C dX1_fits_1 fl_X1_28 (by first | exact hy.k _ | assumption) rfl ?_
  -- at 4: .ifCond .eq 21
  refine z_if_eq (pc2 := 7) (tgt := 25) C dX1_fits_4 (by decide) rfl (by omega) (fun h1 => ?_) (fun h1 => ?_)
  · skip
    refine w_iconst (pc2 := 26) (v := iI 1) C dX1_fits_25 (by decide) rfl ?_
    refine w_goto (tgt := 30) C dX1_fits_26 (by decide) ?_
    -- at 30: .ireturn
    exact w_zret C dX1_fits_30 (Or.inr rfl) (by decide) (by decide) (DetI (by rw [if_pos (by omega)]) rfl)
  · have h2 := hm.2.2 (c - 1) (by omega)
    refine w_aload_n (pc2 := 8) C dX1_fits_7 rfl rfl ?_
    refine w_getR (pc2 := 11) C dX1_fits_8 fl_X1_31 (by first | exact hy.k _ | assumption) (by first | exact hy.r _ _ | assumption) rfl ?_
    refine w_aload_n (pc2 := 12) C dX1_fits_11 rfl rfl ?_
    refine z_getI (pc2 := 15) C dX1_fits_12 fl_X1_28 (by first | exact hy.k _ | assumption) rfl ?_
    refine w_iconst (pc2 := 16) (v := iI 1) C dX1_fits_15 (by decide) rfl ?_
    refine z_isub (pc2 := 17) C dX1_fits_16 rfl ?_
    -- at 17: .iaload
    refine z_iald (pc2 := 18) (j := c - 1) C dX1_fits_17 (by first | exact hy.k _ | assumption) (by omega) (by omega) (by decide) rfl ?_
    refine w_aload_n (pc2 := 19) C dX1_fits_18 rfl rfl ?_
    refine z_getI (pc2 := 22) C dX1_fits_19 fl_X1_22 (by first | exact hy.k _ | assumption) rfl ?_
    -- at 22: .if_icmp .ge 7
    refine z_icmp_ge (pc2 := 25) (tgt := 29) C dX1_fits_22 (by decide) rfl (by omega) (by omega) (fun h3 => ?_) (fun h3 => ?_)
    · skip
      refine w_iconst (pc2 := 30) (v := iI 0) C dX1_fits_29 (by decide) rfl ?_
      -- at 30: .ireturn
      exact w_zret C dX1_fits_30 (Or.inl rfl) (by decide) (by decide) (DetI (by rw [if_neg (by omega)]) rfl)
    · skip
      refine w_iconst (pc2 := 26) (v := iI 1) C dX1_fits_25 (by decide) rfl ?_
      refine w_goto (tgt := 30) C dX1_fits_26 (by decide) ?_
      -- at 30: .ireturn
      exact w_zret C dX1_fits_30 (Or.inr rfl) (by decide) (by decide) (DetI (by rw [if_pos (by omega)]) rfl)
theorem s_X1_pinDown (hy : Ly K R) {c : Nat} {t : Int} (hm : Mus J c) (hs : 1 ≤ J 18 3 ∧ J 18 3 ≤ 2063) (ht : 0 ≤ t ∧ t < J 18 3) : S_X1_pinDown [.ref 18, .ref 12, .int (iI t)] n K (zw J) L R (Det none n K (zw (up2 (up2 (pdJ J t c) 18 2 c) 18 4 t)) L R) := by
  have hc := hm.1
  have hc2 := hm.2.1
  refine Sp_intro [some (.ref 18), some (.ref 12), some (.int (iI t)), none, none] rfl rfl (Nat.le_of_ble_eq_true rfl) rfl ?_
  intro Γ C
  replace C : C_X1_pinDown Γ := C
  have key : ∀ (d j : Nat), j + d = c → ∀ w : Option Value, noL [w] = true → wp Γ 0 0 (QQ Γ (Det none n K (zw (up2 (up2 (pdJ J t c) 18 2 c) 18 4 t)) L R)) 2 [some (.ref 18), some (.ref 12), some (.int (iI t)), some (.int (iI j)), none] [] n K (zw (pdJ J t j)) L R := by
    intro d
    induction d with
    | zero =>
      intro j hj w hw
      have e12 : pdJ J t j 12 = J 12 := pdJ_row (by decide) (by decide)
      refine w_iload_n (pc2 := 3) C dX1_pinDown_2 rfl rfl ?_
      refine w_aload_n (pc2 := 4) C dX1_pinDown_3 rfl rfl ?_
      refine z_getI (pc2 := 7) C dX1_pinDown_4 fl_X1_28 (by first | exact hy.k _ | assumption) rfl ?_
      -- at 7: .if_icmp .ge 58
      rw [e12]
      refine z_icmp_ge (pc2 := 10) (tgt := 65) C dX1_pinDown_7 (by decide) rfl (by omega) (by omega) (fun h1 => ?_) (fun h1 => ?_)
      · skip
        refine w_aload_n (pc2 := 66) C dX1_pinDown_65 rfl rfl ?_
        refine w_aload_n (pc2 := 67) C dX1_pinDown_66 rfl rfl ?_
        refine z_getI (pc2 := 70) C dX1_pinDown_67 fl_X1_28 (by first | exact hy.k _ | assumption) rfl ?_
        refine z_putI (pc2 := 73) C dX1_pinDown_70 fl_X1_18 (by first | exact hy.k _ | assumption) (by rfl) (by rfl) rfl ?_
        refine w_aload_n (pc2 := 74) C dX1_pinDown_73 rfl rfl ?_
        refine w_iload_n (pc2 := 75) C dX1_pinDown_74 rfl rfl ?_
        refine z_putI (pc2 := 78) C dX1_pinDown_75 fl_X1_25 (by first | exact hy.k _ | assumption) (by rfl) (by rfl) rfl ?_
        -- at 78: .return_
        rw [show (pdJ J t j) 12 2 = (c : Int) by rw [e12]; exact hc, show j = c by omega]
        exact w_ret C dX1_pinDown_78 (by decide) (by decide) (⟨rfl, rfl, rfl, rfl, rfl, rfl⟩)
      · exact absurd hj (by omega)
    | succ d ih =>
      intro j hj w hw
      have e12 : pdJ J t j 12 = J 12 := pdJ_row (by decide) (by decide)
      have e13 : pdJ J t j 13 = J 13 := pdJ_row (by decide) (by decide)
      have e14 : pdJ J t j 14 = J 14 := pdJ_row (by decide) (by decide)
      have e18 : pdJ J t j 18 = J 18 := pdJ_row (by decide) (by decide)
      have h2 := hm.2.2 j (by omega)
      have fin : wp Γ 0 0 (QQ Γ (Det none n K (zw (up2 (up2 (pdJ J t c) 18 2 c) 18 4 t)) L R)) 46 [some (.ref 18), some (.ref 12), some (.int (iI t)), some (.int (iI j)), some (.int (iI (J 13 j + t)))] [.int (iI (pst J t j)), .int (iI j), .ref 19] n K (zw (pdJ J t j)) L R := by
        refine z_iast (pc2 := 47) (j := j) C dX1_pinDown_46 (by first | exact hy.k _ | assumption) (by omega) (by omega) (by decide) rfl ?_
        refine w_aload_n (pc2 := 48) C dX1_pinDown_47 rfl rfl ?_
        refine w_getR (pc2 := 51) C dX1_pinDown_48 fl_X1_15 (by first | exact hy.k _ | assumption) (by first | exact hy.r _ _ | assumption) rfl ?_
        refine w_iload_n (pc2 := 52) C dX1_pinDown_51 rfl rfl ?_
        refine w_aload_n (pc2 := 53) C dX1_pinDown_52 rfl rfl ?_
        refine w_getR (pc2 := 56) C dX1_pinDown_53 fl_X1_34 (by first | exact hy.k _ | assumption) (by first | exact hy.r _ _ | assumption) rfl ?_
        refine w_iload_n (pc2 := 57) C dX1_pinDown_56 rfl rfl ?_
        -- at 57: .iaload
        refine z_iald (pc2 := 58) (j := j) C dX1_pinDown_57 (by first | exact hy.k _ | assumption) (by omega) (by omega) (by decide) rfl ?_
        rw [show up2 (pdJ J t j) 19 j (pst J t j) 14 j = J 14 j by rw [up2_row (by decide), e14]]
        refine z_iast (pc2 := 59) (j := j) C dX1_pinDown_58 (by first | exact hy.k _ | assumption) (by omega) (by omega) (by decide) rfl ?_
        rw [pdJ_up]
        refine w_iinc (pc2 := 62) C dX1_pinDown_59 rfl (iI_add _ _) rfl (by decide) rfl rfl ?_
        try dsimp only [List.set]
        refine w_goto (tgt := 2) C dX1_pinDown_62 (by decide) ?_
        -- at 2: .iload_n 3
        refine w_less (lo2 := [some (.ref 18), some (.ref 12), some (.int (iI t)), some (.int (iI ((j + 1 : Nat) : Int))), none]) ?_ (ih (j + 1) (by omega) none rfl)
        intro i v hv
        match i, hv with
        | 0, hv => exact hv
        | 1, hv => exact hv
        | 2, hv => exact hv
        | 3, hv => exact hv
        | 4, hv => cases hv
        | i + 5, hv => simp at hv
      refine w_iload_n (pc2 := 3) C dX1_pinDown_2 rfl rfl ?_
      refine w_aload_n (pc2 := 4) C dX1_pinDown_3 rfl rfl ?_
      refine z_getI (pc2 := 7) C dX1_pinDown_4 fl_X1_28 (by first | exact hy.k _ | assumption) rfl ?_
      -- at 7: .if_icmp .ge 58
      rw [e12]
      refine z_icmp_ge (pc2 := 10) (tgt := 65) C dX1_pinDown_7 (by decide) rfl (by omega) (by omega) (fun h1 => ?_) (fun h1 => ?_)
      · exact absurd hj (by omega)
      · skip
        refine w_aload_n (pc2 := 11) C dX1_pinDown_10 rfl rfl ?_
        refine w_getR (pc2 := 14) C dX1_pinDown_11 fl_X1_31 (by first | exact hy.k _ | assumption) (by first | exact hy.r _ _ | assumption) rfl ?_
        refine w_iload_n (pc2 := 15) C dX1_pinDown_14 rfl rfl ?_
        -- at 15: .iaload
        refine z_iald (pc2 := 16) (j := j) C dX1_pinDown_15 (by first | exact hy.k _ | assumption) (by omega) (by omega) (by decide) rfl ?_
        rw [e13]
        refine w_iload_n (pc2 := 17) C dX1_pinDown_16 rfl rfl ?_
        refine z_iadd (pc2 := 18) C dX1_pinDown_17 rfl ?_
        refine w_istore (pc2 := 20) C dX1_pinDown_18 rfl (by decide) rfl rfl ?_
        try dsimp only [List.set]
        refine w_aload_n (pc2 := 21) C dX1_pinDown_20 rfl rfl ?_
        refine w_getR (pc2 := 24) C dX1_pinDown_21 fl_X1_9 (by first | exact hy.k _ | assumption) (by first | exact hy.r _ _ | assumption) rfl ?_
        refine w_iload_n (pc2 := 25) C dX1_pinDown_24 rfl rfl ?_
        refine w_iload (pc2 := 27) C dX1_pinDown_25 rfl rfl ?_
        refine w_aload_n (pc2 := 28) C dX1_pinDown_27 rfl rfl ?_
        refine z_getI (pc2 := 31) C dX1_pinDown_28 fl_X1_22 (by first | exact hy.k _ | assumption) rfl ?_
        -- at 31: .if_icmp .ge 8
        rw [e18]
        refine z_icmp_ge (pc2 := 34) (tgt := 39) C dX1_pinDown_31 (by decide) rfl (by omega) (by omega) (fun h3 => ?_) (fun h3 => ?_)
        · skip
          refine w_iload (pc2 := 41) C dX1_pinDown_39 rfl rfl ?_
          refine w_aload_n (pc2 := 42) C dX1_pinDown_41 rfl rfl ?_
          refine z_getI (pc2 := 45) C dX1_pinDown_42 fl_X1_22 (by first | exact hy.k _ | assumption) rfl ?_
          refine z_isub (pc2 := 46) C dX1_pinDown_45 rfl ?_
          -- at 46: .iastore
          rw [e18]
          have e : pst J t j = J 13 j + t - J 18 3 := if_neg (by omega)
          rw [e] at fin
          exact fin
        · skip
          refine w_iload (pc2 := 36) C dX1_pinDown_34 rfl rfl ?_
          refine w_goto (tgt := 46) C dX1_pinDown_36 (by decide) ?_
          -- at 46: .iastore
          have e : pst J t j = J 13 j + t := if_pos (by omega)
          rw [e] at fin
          exact fin
  refine w_iconst (pc2 := 1) (v := iI 0) C dX1_pinDown_0 (by decide) rfl ?_
  refine w_istore_n (pc2 := 2) C dX1_pinDown_1 rfl (by decide) rfl rfl ?_
  try dsimp only [List.set]
  -- at 2: .iload_n 3
  have := key c 0 (by omega) none rfl
  rw [pdJ_0] at this
  exact this
end DRUM
