/-! ===== a SCORE's text, as signs: s p is the sign at place p, -1 behind the end t ===== -/
def dgP (x : Int) : Prop := 48 ≤ x ∧ x ≤ 57
theorem dgP_dec (x : Int) : dgP x ∨ ¬ dgP x := by unfold dgP; omega
def blk (x : Int) : Prop := x = 32 ∨ x = 10
def nbF (s : Nat → Int) : Nat → Nat → Nat
  | 0, p => p
  | f + 1, p => if s p = 32 ∨ s p = 10 then nbF s f (p + 1) else p
/-- the next place without a blank -/
def nb (s : Nat → Int) (t p : Nat) : Nat := nbF s (t - p) p
/-- signs: none behind the end -/
def Sg (s : Nat → Int) (t : Nat) : Prop := t ≤ 1000 ∧ (∀ p, t ≤ p → s p = -1) ∧ ∀ p, p < t → 0 ≤ s p ∧ s p < 256
theorem Sg.bd {s : Nat → Int} {t : Nat} (h : Sg s t) (p : Nat) : -1 ≤ s p ∧ s p < 256 := by
  rcases Nat.lt_or_ge p t with q | q
  · have := h.2.2 p q; omega
  · have := h.2.1 p q; omega
theorem Sg.lt {s : Nat → Int} {t p : Nat} (h : Sg s t) (hp : 0 ≤ s p) : p < t := by
  rcases Nat.lt_or_ge p t with q | q
  · exact q
  · have := h.2.1 p q; omega
theorem nbF_le (s : Nat → Int) : ∀ f p, p ≤ nbF s f p ∧ nbF s f p ≤ p + f
  | 0, p => by simp [nbF]
  | f + 1, p => by
    have := nbF_le s f (p + 1)
    simp only [nbF]
    split <;> omega
theorem nb_ge (s : Nat → Int) (t p : Nat) : p ≤ nb s t p := (nbF_le s (t - p) p).1
theorem nb_le {s : Nat → Int} {t p : Nat} (h : p ≤ t) : nb s t p ≤ t := by
  have := (nbF_le s (t - p) p).2
  unfold nb
  omega
theorem nb_step {s : Nat → Int} {t p : Nat} (hs : Sg s t) (h : s p = 32 ∨ s p = 10) : nb s t p = nb s t (p + 1) := by
  have hp : p < t := hs.lt (by omega)
  unfold nb
  rw [show t - p = (t - (p + 1)) + 1 by omega, nbF, if_pos h]
theorem nb_stop {s : Nat → Int} {t p : Nat} (h : ¬ (s p = 32 ∨ s p = 10)) : nb s t p = p := by
  unfold nb
  generalize t - p = f
  cases f with
  | zero => rfl
  | succ f => rw [nbF, if_neg h]
theorem nb_sign {s : Nat → Int} {t : Nat} (hs : Sg s t) (p : Nat) : ¬ (s (nb s t p) = 32 ∨ s (nb s t p) = 10) := by
  have key : ∀ f p, t ≤ p + f → ¬ (s (nbF s f p) = 32 ∨ s (nbF s f p) = 10) := by
    intro f
    induction f with
    | zero =>
      intro p hp
      have := hs.2.1 p (by omega)
      simp only [nbF]
      omega
    | succ f ih =>
      intro p hp
      simp only [nbF]
      split
      · exact ih (p + 1) (by omega)
      · assumption
  exact key (t - p) p (by omega)
theorem nb_nb {s : Nat → Int} {t : Nat} (hs : Sg s t) (p : Nat) : nb s t (nb s t p) = nb s t p := nb_stop (nb_sign hs p)
/-- how many digits stand at q, three at most -/
def dgN (s : Nat → Int) (q : Nat) : Nat := if 48 ≤ s q ∧ s q ≤ 57 then (if 48 ≤ s (q + 1) ∧ s (q + 1) ≤ 57 then (if 48 ≤ s (q + 2) ∧ s (q + 2) ≤ 57 then 3 else 2) else 1) else 0
def nvF (s : Nat → Int) (q : Nat) : Nat → Int
  | 0 => 0
  | d + 1 => nvF s q d * 10 + s (q + d) - 48
theorem dgN_le (s : Nat → Int) (q : Nat) : dgN s q ≤ 3 := by
  unfold dgN
  (repeat' split) <;> omega
theorem dgN_in {s : Nat → Int} {q : Nat} : ∀ i, i < dgN s q → 48 ≤ s (q + i) ∧ s (q + i) ≤ 57 := by
  intro i hi
  unfold dgN at hi
  split at hi
  · rename_i h0
    split at hi
    · rename_i h1
      split at hi
      · rename_i h2
        have : i = 0 ∨ i = 1 ∨ i = 2 := by omega
        rcases this with e | e | e <;> subst e
        · exact h0
        · exact h1
        · exact h2
      · have : i = 0 ∨ i = 1 := by omega
        rcases this with e | e <;> subst e
        · exact h0
        · exact h1
    · have : i = 0 := by omega
      subst this
      exact h0
  · omega
theorem dgN_end {s : Nat → Int} {q : Nat} (h : dgN s q < 3) : ¬ (48 ≤ s (q + dgN s q) ∧ s (q + dgN s q) ≤ 57) := by
  unfold dgN at h ⊢
  by_cases h0 : 48 ≤ s q ∧ s q ≤ 57
  · rw [if_pos h0] at h ⊢
    by_cases h1 : 48 ≤ s (q + 1) ∧ s (q + 1) ≤ 57
    · rw [if_pos h1] at h ⊢
      by_cases h2 : 48 ≤ s (q + 2) ∧ s (q + 2) ≤ 57
      · rw [if_pos h2] at h; exact absurd h (by omega)
      · rw [if_neg h2]; exact h2
    · rw [if_neg h1]; exact h1
  · rw [if_neg h0]; exact h0
theorem nvF_bd {s : Nat → Int} {q : Nat} : ∀ d, d ≤ dgN s q → 0 ≤ nvF s q d ∧ nvF s q d < 10 ^ d
  | 0, _ => by simp [nvF]
  | d + 1, h => by
    have ih := nvF_bd (s := s) (q := q) d (by omega)
    have hd := dgN_in (s := s) (q := q) d (by omega)
    simp only [nvF]
    have e : (10 : Int) ^ (d + 1) = 10 * 10 ^ d := by rw [Int.pow_succ]; omega
    rw [e]
    generalize (10 : Int) ^ d = z at *
    omega
theorem nvF_bd3 (s : Nat → Int) (q : Nat) : 0 ≤ nvF s q (dgN s q) ∧ nvF s q (dgN s q) < 1000 := by
  have h1 := nvF_bd (s := s) (q := q) (dgN s q) (Nat.le_refl _)
  have h2 := dgN_le s q
  have : dgN s q = 0 ∨ dgN s q = 1 ∨ dgN s q = 2 ∨ dgN s q = 3 := by omega
  rcases this with e | e | e | e <;> rw [e] at h1 ⊢ <;> simp at h1 ⊢ <;> omega
theorem dg_le {s : Nat → Int} {t q : Nat} (hs : Sg s t) (h : q ≤ t) : q + dgN s q ≤ t := by
  rcases Nat.eq_zero_or_pos (dgN s q) with e | e
  · omega
  · have h1 := dgN_in (s := s) (q := q) (dgN s q - 1) (by omega)
    have := hs.lt (p := q + (dgN s q - 1)) (by omega)
    omega
abbrev Flt : Type := Int × Nat
/-- a NUMBER from p on: a FAULT, or (value, its place, the place behind it) -/
def num (s : Nat → Int) (t p : Nat) (lo hi : Int) : Flt ⊕ (Int × Nat × Nat) :=
  if dgN s (nb s t p) = 0 ∨ (48 ≤ s (nb s t p + dgN s (nb s t p)) ∧ s (nb s t p + dgN s (nb s t p)) ≤ 57) then .inl (1, nb s t p + dgN s (nb s t p))
  else if nvF s (nb s t p) (dgN s (nb s t p)) < lo ∨ hi < nvF s (nb s t p) (dgN s (nb s t p)) then .inl (2, nb s t p)
  else .inr (nvF s (nb s t p) (dgN s (nb s t p)), nb s t p, nb s t p + dgN s (nb s t p))
theorem num_ok {s : Nat → Int} {t p : Nat} {lo hi v : Int} {q e : Nat} (h : num s t p lo hi = .inr (v, q, e)) : lo ≤ v ∧ v ≤ hi ∧ q = nb s t p ∧ e = nb s t p + dgN s (nb s t p) ∧ v = nvF s (nb s t p) (dgN s (nb s t p)) ∧ 1 ≤ dgN s (nb s t p) := by
  unfold num at h
  split at h
  · cases h
  · split at h
    · cases h
    · rename_i h1 h2
      injection h with h
      injection h with a b
      injection b with b c
      omega
/-- the class's own text -/
def bt (J : wJn) (p : Nat) : Int := (iI (J 2 p) &&& iI 255).toInt
def Txt (J : wJn) (s : Nat → Int) (t : Nat) : Prop := J 1 1 = t ∧ Sg s t ∧ ∀ p, p < t → s p = bt J p
theorem Txt.rows {J J2 : wJn} {s : Nat → Int} {t : Nat} (h : Txt J s t) (h1 : J2 1 = J 1) (h2 : J2 2 = J 2) : Txt J2 s t := by
  unfold Txt bt
  rw [h1, h2]
  exact h
theorem up2_self {α : Type} (f : Nat → Nat → α) (i k : Nat) : up2 f i k (f i k) = f := by
  funext a b
  simp only [up2]
  split
  · rename_i h; rw [h.1, h.2]
  · rfl
theorem up2_up2 {α : Type} (f : Nat → Nat → α) (i k : Nat) (x y : α) : up2 (up2 f i k x) i k y = up2 f i k y := by
  funext a b
  simp only [up2]
  split <;> rfl
/-- the first FAULT is kept -/
def flJ (J : wJn) (k p : Int) : wJn := if J 3 1 = 0 then up2 (up2 J 3 1 k) 3 2 p else J
theorem flJ_row {J : wJn} {k p : Int} {a : Nat} (h : a ≠ 3) : flJ J k p a = J a := by
  unfold flJ
  split
  · rw [up2_row h, up2_row h]
  · rfl
theorem flJ_f {J : wJn} {k p : Int} {b : Nat} (h1 : b ≠ 1) (h2 : b ≠ 2) : flJ J k p 3 b = J 3 b := by
  unfold flJ
  split
  · rw [up2_n _ _ _ _ (by omega), up2_n _ _ _ _ (by omega)]
  · rfl
theorem flJ_1 {J : wJn} {k p : Int} : flJ J k p 3 1 = if J 3 1 = 0 then k else J 3 1 := by
  unfold flJ
  split
  · rw [up2_n _ _ _ _ (by omega), up2_s]
  · rfl
theorem flJ_2 {J : wJn} {k p : Int} : flJ J k p 3 2 = if J 3 1 = 0 then p else J 3 2 := by
  unfold flJ
  split
  · rw [up2_s]
  · rfl
section TEXT
variable {n : Nat} {K : wKd} {J : wJn} {L : wLn} {R : wRf}
theorem s_X4_fail (hy : Ly K R) {k p : Int} (hf : R32 (J 3 1)) : S_X4_fail [.ref 3, .int (iI k), .int (iI p)] n K (zw J) L R (Det none n K (zw (flJ J k p)) L R) := by
  refine Sp_intro [some (.ref 3), some (.int (iI k)), some (.int (iI p))] rfl rfl (Nat.le_of_ble_eq_true rfl) rfl ?_
  intro Γ C
  replace C : C_X4_fail Γ := C
  refine w_aload_n (pc2 := 1) C dX4_fail_0 rfl rfl ?_
  refine z_getI (pc2 := 4) C dX4_fail_1 fl_X4_68 (by first | exact hy.k _ | assumption) rfl ?_
  -- at 4: .ifCond .ne 13
  refine z_if_ne (pc2 := 7) (tgt := 17) C dX4_fail_4 (by decide) rfl (by omega) (fun h1 => ?_) (fun h1 => ?_)
  · skip
    exact w_ret C dX4_fail_17 (by decide) (by decide) (DetI rfl (by rw [flJ, if_neg h1]))
  · skip
    refine w_aload_n (pc2 := 8) C dX4_fail_7 rfl rfl ?_
    refine w_iload_n (pc2 := 9) C dX4_fail_8 rfl rfl ?_
    refine z_putI (pc2 := 12) C dX4_fail_9 fl_X4_68 (by first | exact hy.k _ | assumption) (by rfl) (by rfl) rfl ?_
    refine w_aload_n (pc2 := 13) C dX4_fail_12 rfl rfl ?_
    refine w_iload_n (pc2 := 14) C dX4_fail_13 rfl rfl ?_
    refine z_putI (pc2 := 17) C dX4_fail_14 fl_X4_80 (by first | exact hy.k _ | assumption) (by rfl) (by rfl) rfl ?_
    -- at 17: .return_
    exact w_ret C dX4_fail_17 (by decide) (by decide) (DetI rfl (by rw [flJ, if_pos h1]))
theorem s_X4_isDigit {x : Int} (hx : R32 x) : S_X4_isDigit [.int (iI x)] n K (zw J) L R (Det (some (.int (iI (if 48 ≤ x ∧ x ≤ 57 then 1 else 0)))) n K (zw J) L R) := by
  refine Sp_intro [some (.int (iI x))] rfl rfl (Nat.le_of_ble_eq_true rfl) rfl ?_
  intro Γ C
  replace C : C_X4_isDigit Γ := C
  refine w_iload_n (pc2 := 1) C dX4_isDigit_0 rfl rfl ?_
  refine w_bipush (pc2 := 3) (v := iI 48) C dX4_isDigit_1 (by decide) rfl ?_
  -- at 3: .if_icmp .lt 13
  refine z_icmp_lt (pc2 := 6) (tgt := 16) C dX4_isDigit_3 (by decide) rfl (by omega) (by omega) (fun h1 => ?_) (fun h1 => ?_)
  · skip
    refine w_iconst (pc2 := 17) (v := iI 0) C dX4_isDigit_16 (by decide) rfl ?_
    -- at 17: .ireturn
    exact w_zret C dX4_isDigit_17 (Or.inl rfl) (by decide) (by decide) (DetI (by rw [if_neg (by omega)]) rfl)
  · skip
    refine w_iload_n (pc2 := 7) C dX4_isDigit_6 rfl rfl ?_
    refine w_bipush (pc2 := 9) (v := iI 57) C dX4_isDigit_7 (by decide) rfl ?_
    -- at 9: .if_icmp .gt 7
    refine z_icmp_gt (pc2 := 12) (tgt := 16) C dX4_isDigit_9 (by decide) rfl (by omega) (by omega) (fun h2 => ?_) (fun h2 => ?_)
    · skip
      refine w_iconst (pc2 := 17) (v := iI 0) C dX4_isDigit_16 (by decide) rfl ?_
      -- at 17: .ireturn
      exact w_zret C dX4_isDigit_17 (Or.inl rfl) (by decide) (by decide) (DetI (by rw [if_neg (by omega)]) rfl)
    · skip
      refine w_iconst (pc2 := 13) (v := iI 1) C dX4_isDigit_12 (by decide) rfl ?_
      refine w_goto (tgt := 17) C dX4_isDigit_13 (by decide) ?_
      -- at 17: .ireturn
      exact w_zret C dX4_isDigit_17 (Or.inr rfl) (by decide) (by decide) (DetI (by rw [if_pos (by omega)]) rfl)
theorem s_X4_signHere (hy : Ly K R) {s : Nat → Int} {t p : Nat} (hT : Txt J s t) (hp : J 3 9 = p) (hpt : p ≤ t) : S_X4_signHere [.ref 3] n K (zw J) L R (Det (some (.int (iI (s p)))) n K (zw J) L R) := by
  have h1 := hT.1
  have h2 := hT.2.1
  have h3 := h2.1
  refine Sp_intro [some (.ref 3)] rfl rfl (Nat.le_of_ble_eq_true rfl) rfl ?_
  intro Γ C
  replace C : C_X4_signHere Γ := C
  refine w_aload_n (pc2 := 1) C dX4_signHere_0 rfl rfl ?_
  refine z_getI (pc2 := 4) C dX4_signHere_1 fl_X4_61 (by first | exact hy.k _ | assumption) rfl ?_
  -- at 4: .ifCond .lt 27
  refine z_if_lt (pc2 := 7) (tgt := 31) C dX4_signHere_4 (by decide) rfl (by omega) (fun q1 => ?_) (fun q1 => ?_)
  · exact absurd q1 (by omega)
  · skip
    refine w_aload_n (pc2 := 8) C dX4_signHere_7 rfl rfl ?_
    refine z_getI (pc2 := 11) C dX4_signHere_8 fl_X4_61 (by first | exact hy.k _ | assumption) rfl ?_
    refine w_aload_n (pc2 := 12) C dX4_signHere_11 rfl rfl ?_
    refine w_getR (pc2 := 15) C dX4_signHere_12 fl_X4_31 (by first | exact hy.k _ | assumption) (by first | exact hy.r _ _ | assumption) rfl ?_
    refine z_getI (pc2 := 18) C dX4_signHere_15 fl_X4_134 (by first | exact hy.k _ | assumption) rfl ?_
    -- at 18: .if_icmp .ge 13
    refine z_icmp_ge (pc2 := 21) (tgt := 31) C dX4_signHere_18 (by decide) rfl (by omega) (by omega) (fun q2 => ?_) (fun q2 => ?_)
    · skip
      refine w_iconst (pc2 := 32) (v := iI (-1)) C dX4_signHere_31 (by decide) rfl ?_
      -- at 32: .ireturn
      exact w_iret C dX4_signHere_32 (by decide) (by decide) (DetI (by rw [h2.2.1 p (by omega)]) rfl)
    · skip
      refine w_aload_n (pc2 := 22) C dX4_signHere_21 rfl rfl ?_
      refine z_getI (pc2 := 25) C dX4_signHere_22 fl_X4_61 (by first | exact hy.k _ | assumption) rfl ?_
      refine w_sipush (pc2 := 28) (v := iI 1000) C dX4_signHere_25 (by decide) rfl ?_
      -- at 28: .if_icmp .lt 5
      refine z_icmp_lt (pc2 := 31) (tgt := 33) C dX4_signHere_28 (by decide) rfl (by omega) (by omega) (fun q3 => ?_) (fun q3 => ?_)
      · skip
        refine w_aload_n (pc2 := 34) C dX4_signHere_33 rfl rfl ?_
        refine w_getR (pc2 := 37) C dX4_signHere_34 fl_X4_31 (by first | exact hy.k _ | assumption) (by first | exact hy.r _ _ | assumption) rfl ?_
        refine w_getR (pc2 := 40) C dX4_signHere_37 fl_X4_137 (by first | exact hy.k _ | assumption) (by first | exact hy.r _ _ | assumption) rfl ?_
        refine w_aload_n (pc2 := 41) C dX4_signHere_40 rfl rfl ?_
        refine z_getI (pc2 := 44) C dX4_signHere_41 fl_X4_61 (by first | exact hy.k _ | assumption) rfl ?_
        -- at 44: .baload
        refine z_bald (pc2 := 45) (j := p) C dX4_signHere_44 (by first | exact hy.k _ | assumption) (by omega) (by omega) (by decide) rfl ?_
        refine w_sipush (pc2 := 48) (v := iI 255) C dX4_signHere_45 (by decide) rfl ?_
        refine w_iand (pc2 := 49) C dX4_signHere_48 rfl ?_
        -- at 49: .ireturn
        rw [show (iI (J 2 p) &&& iI 255) = iI (s p) by rw [hT.2.2 p (by omega), bt, iI_of]]
        exact w_iret C dX4_signHere_49 (by decide) (by decide) (⟨rfl, rfl, rfl, rfl, rfl, rfl⟩)
      · exact absurd q3 (by omega)
theorem s_X4_nextSign (hy : Ly K R) {s : Nat → Int} {t p : Nat} (hT : Txt J s t) (hp : J 3 9 = p) (hpt : p ≤ t) : S_X4_nextSign [.ref 3] n K (zw J) L R (Det (some (.int (iI (s (nb s t p))))) n K (zw (up2 J 3 9 (nb s t p))) L R) := by
  have h1 := hT.1
  have h2 := hT.2.1
  have h3 := h2.1
  refine Sp_intro [some (.ref 3), none] rfl rfl (Nat.le_of_ble_eq_true rfl) rfl ?_
  intro Γ C
  replace C : C_X4_nextSign Γ := C
  have key : ∀ (d p : Nat) (J2 : wJn), p + d = t → nb s t p = nb s t p → J2 = up2 J 3 9 p → ∀ v : Nat, v = nb s t p → wp Γ 0 0 (QQ Γ (Det (some (.int (iI (s v)))) n K (zw (up2 J 3 9 v)) L R)) 5 [some (.ref 3), some (.int (iI (s p)))] [] n K (zw J2) L R := by
    intro d
    induction d with
    | zero =>
      intro p J2 hd _ eJ v hv
      have e9 : J2 3 9 = p := by rw [eJ, up2_s]
      have e1 : J2 1 = J 1 := by rw [eJ, up2_row (by decide)]
      have hb := h2.bd p
      refine w_aload_n (pc2 := 6) C dX4_nextSign_5 rfl rfl ?_
      refine z_getI (pc2 := 9) C dX4_nextSign_6 fl_X4_61 (by first | exact hy.k _ | assumption) rfl ?_
      refine w_aload_n (pc2 := 10) C dX4_nextSign_9 rfl rfl ?_
      refine w_getR (pc2 := 13) C dX4_nextSign_10 fl_X4_31 (by first | exact hy.k _ | assumption) (by first | exact hy.r _ _ | assumption) rfl ?_
      refine z_getI (pc2 := 16) C dX4_nextSign_13 fl_X4_134 (by first | exact hy.k _ | assumption) rfl ?_
      -- at 16: .if_icmp .ge 33
      rw [e9, e1]
      refine z_icmp_ge (pc2 := 19) (tgt := 49) C dX4_nextSign_16 (by decide) rfl (by omega) (by omega) (fun q1 => ?_) (fun q1 => ?_)
      · skip
        refine w_iload_n (pc2 := 50) C dX4_nextSign_49 rfl rfl ?_
        -- at 50: .ireturn
        have hv2 : v = p := by rw [hv]; exact nb_stop (by have := h2.2.1 p (by omega); omega)
        exact w_iret C dX4_nextSign_50 (by decide) (by decide) (DetI (by rw [hv2]) (by rw [eJ, hv2]))
      · exact absurd hd (by omega)
    | succ d ih =>
      intro p J2 hd _ eJ v hv
      have e9 : J2 3 9 = p := by rw [eJ, up2_s]
      have e1 : J2 1 = J 1 := by rw [eJ, up2_row (by decide)]
      have hb := h2.bd p
      have fin : (s p = 32 ∨ s p = 10) → wp Γ 0 0 (QQ Γ (Det (some (.int (iI (s v)))) n K (zw (up2 J 3 9 v)) L R)) 31 [some (.ref 3), some (.int (iI (s p)))] [] n K (zw J2) L R := by
        intro hbl
        have hT2 : Txt (up2 J2 3 9 (J2 3 9 + 1)) s t := hT.rows (by rw [up2_row (by decide), e1]) (by rw [up2_row (by decide), eJ, up2_row (by decide)])
        refine w_aload_n (pc2 := 32) C dX4_nextSign_31 rfl rfl ?_
        refine w_dup (pc2 := 33) C dX4_nextSign_32 rfl rfl ?_
        refine z_getI (pc2 := 36) C dX4_nextSign_33 fl_X4_61 (by first | exact hy.k _ | assumption) rfl ?_
        refine w_iconst (pc2 := 37) (v := iI 1) C dX4_nextSign_36 (by decide) rfl ?_
        refine z_iadd (pc2 := 38) C dX4_nextSign_37 rfl ?_
        refine z_putI (pc2 := 41) C dX4_nextSign_38 fl_X4_61 (by first | exact hy.k _ | assumption) (by rfl) (by rfl) rfl ?_
        refine w_aload_n (pc2 := 42) C dX4_nextSign_41 rfl rfl ?_
        -- at 42: .invokevirtual 131
        refine w_cVi (pc2 := 45)  C dX4_nextSign_42 mb_X4_131 mv_X4_signHere (s_X4_signHere hy hT2 (p := p + 1) (by rw [up2_s, e9]; omega) (by omega)) (by first | exact hy.k _ | assumption) rfl (by decide) rfl rfl (Nat.le_of_ble_eq_true rfl) ⟨by decide, by decide⟩ ⟨rfl, rfl⟩ ⟨by decide, by decide⟩ rfl ?_
        refine w_istore_n (pc2 := 46) C dX4_nextSign_45 rfl (by decide) rfl rfl ?_
        try dsimp only [List.set]
        refine w_goto (tgt := 5) C dX4_nextSign_46 (by decide) ?_
        -- at 5: .aload_n 0
        exact ih (p + 1) _ (by omega) rfl (by rw [eJ, up2_s, up2_up2]; congr 1) v (by rw [hv]; exact nb_step h2 hbl)
      refine w_aload_n (pc2 := 6) C dX4_nextSign_5 rfl rfl ?_
      refine z_getI (pc2 := 9) C dX4_nextSign_6 fl_X4_61 (by first | exact hy.k _ | assumption) rfl ?_
      refine w_aload_n (pc2 := 10) C dX4_nextSign_9 rfl rfl ?_
      refine w_getR (pc2 := 13) C dX4_nextSign_10 fl_X4_31 (by first | exact hy.k _ | assumption) (by first | exact hy.r _ _ | assumption) rfl ?_
      refine z_getI (pc2 := 16) C dX4_nextSign_13 fl_X4_134 (by first | exact hy.k _ | assumption) rfl ?_
      -- at 16: .if_icmp .ge 33
      rw [e9, e1]
      refine z_icmp_ge (pc2 := 19) (tgt := 49) C dX4_nextSign_16 (by decide) rfl (by omega) (by omega) (fun q1 => ?_) (fun q1 => ?_)
      · exact absurd hd (by omega)
      · skip
        refine w_iload_n (pc2 := 20) C dX4_nextSign_19 rfl rfl ?_
        refine w_bipush (pc2 := 22) (v := iI 32) C dX4_nextSign_20 (by decide) rfl ?_
        -- at 22: .if_icmp .eq 9
        refine z_icmp_eq (pc2 := 25) (tgt := 31) C dX4_nextSign_22 (by decide) rfl (by omega) (by omega) (fun q2 => ?_) (fun q2 => ?_)
        · exact fin (Or.inl q2)
        · skip
          refine w_iload_n (pc2 := 26) C dX4_nextSign_25 rfl rfl ?_
          refine w_bipush (pc2 := 28) (v := iI 10) C dX4_nextSign_26 (by decide) rfl ?_
          -- at 28: .if_icmp .ne 21
          refine z_icmp_ne (pc2 := 31) (tgt := 49) C dX4_nextSign_28 (by decide) rfl (by omega) (by omega) (fun q3 => ?_) (fun q3 => ?_)
          · have hv2 : v = p := by rw [hv]; exact nb_stop (by omega)
            refine w_iload_n (pc2 := 50) C dX4_nextSign_49 rfl rfl ?_
            -- at 50: .ireturn
            exact w_iret C dX4_nextSign_50 (by decide) (by decide) (DetI (by rw [hv2]) (by rw [eJ, hv2]))
          · exact fin (Or.inr q3)
  refine w_aload_n (pc2 := 1) C dX4_nextSign_0 rfl rfl ?_
  -- at 1: .invokevirtual 131
  refine w_cVi (pc2 := 4)  C dX4_nextSign_1 mb_X4_131 mv_X4_signHere (s_X4_signHere hy hT hp hpt) (by first | exact hy.k _ | assumption) rfl (by decide) rfl rfl (Nat.le_of_ble_eq_true rfl) ⟨by decide, by decide⟩ ⟨rfl, rfl⟩ ⟨by decide, by decide⟩ rfl ?_
  refine w_istore_n (pc2 := 5) C dX4_nextSign_4 rfl (by decide) rfl rfl ?_
  try dsimp only [List.set]
  -- at 5: .aload_n 0
  exact key (t - p) p J (by omega) rfl (by rw [← hp, up2_self]) _ rfl
/-- a sign is read, or it's FAULT 1 -/
def exJ (J : wJn) (s : Nat → Int) (t p : Nat) (x : Int) : wJn := if s (nb s t p) = x then up2 J 3 9 ((nb s t p : Int) + 1) else flJ (up2 J 3 9 (nb s t p)) 1 (nb s t p)
theorem s_X4_expect (hy : Ly K R) {s : Nat → Int} {t p : Nat} {x : Int} (hx : R32 x) (hT : Txt J s t) (hp : J 3 9 = p) (hpt : p ≤ t) (hf : R32 (J 3 1)) : S_X4_expect [.ref 3, .int (iI x)] n K (zw J) L R (Det none n K (zw (exJ J s t p x)) L R) := by
  have hb := hT.2.1.bd (nb s t p)
  refine Sp_intro [some (.ref 3), some (.int (iI x))] rfl rfl (Nat.le_of_ble_eq_true rfl) rfl ?_
  intro Γ C
  replace C : C_X4_expect Γ := C
  refine w_aload_n (pc2 := 1) C dX4_expect_0 rfl rfl ?_
  -- at 1: .invokevirtual 39
  refine w_cVi (pc2 := 4)  C dX4_expect_1 mb_X4_39 mv_X4_nextSign (s_X4_nextSign hy hT hp hpt) (by first | exact hy.k _ | assumption) rfl (by decide) rfl rfl (Nat.le_of_ble_eq_true rfl) ⟨by decide, by decide⟩ ⟨rfl, rfl⟩ ⟨by decide, by decide⟩ rfl ?_
  refine w_iload_n (pc2 := 5) C dX4_expect_4 rfl rfl ?_
  -- at 5: .if_icmp .ne 16
  refine z_icmp_ne (pc2 := 8) (tgt := 21) C dX4_expect_5 (by decide) rfl (by omega) (by omega) (fun h1 => ?_) (fun h1 => ?_)
  · skip
    refine w_aload_n (pc2 := 22) C dX4_expect_21 rfl rfl ?_
    refine w_iconst (pc2 := 23) (v := iI 1) C dX4_expect_22 (by decide) rfl ?_
    refine w_aload_n (pc2 := 24) C dX4_expect_23 rfl rfl ?_
    refine z_getI (pc2 := 27) C dX4_expect_24 fl_X4_61 (by first | exact hy.k _ | assumption) rfl ?_
    -- at 27: .invokevirtual 64
    rw [up2_s]
    refine w_cVv (pc2 := 30)  C dX4_expect_27 mb_X4_64 mv_X4_fail (s_X4_fail hy (by rw [up2_n _ _ _ _ (by omega)]; exact hf)) (by first | exact hy.k _ | assumption) rfl (by decide) rfl rfl (Nat.le_of_ble_eq_true rfl) ⟨by decide, by decide⟩ ⟨rfl, rfl⟩ ⟨by decide, by decide⟩ rfl ?_
    -- at 30: .return_
    exact w_ret C dX4_expect_30 (by decide) (by decide) (DetI rfl (by rw [exJ, if_neg h1]))
  · skip
    refine w_aload_n (pc2 := 9) C dX4_expect_8 rfl rfl ?_
    refine w_dup (pc2 := 10) C dX4_expect_9 rfl rfl ?_
    refine z_getI (pc2 := 13) C dX4_expect_10 fl_X4_61 (by first | exact hy.k _ | assumption) rfl ?_
    refine w_iconst (pc2 := 14) (v := iI 1) C dX4_expect_13 (by decide) rfl ?_
    refine z_iadd (pc2 := 15) C dX4_expect_14 rfl ?_
    refine z_putI (pc2 := 18) C dX4_expect_15 fl_X4_61 (by first | exact hy.k _ | assumption) (by rfl) (by rfl) rfl ?_
    refine w_goto (tgt := 30) C dX4_expect_18 (by decide) ?_
    -- at 30: .return_
    rw [up2_s, up2_up2]
    exact w_ret C dX4_expect_30 (by decide) (by decide) (DetI rfl (by rw [exJ, if_pos h1]))
end TEXT
