/-! ===== the reference writes STRIKES ===== -/
theorem popc_mn (m : Nat) {a : Nat} : ∀ b, a ≤ b → popc m a ≤ popc m b
  | 0, h => by rw [show a = 0 by omega]; exact Nat.le_refl _
  | b + 1, h => by
    by_cases e : a = b + 1
    · subst e; exact Nat.le_refl _
    · have := popc_mn m (a := a) b (by omega)
      rw [popc_s]; omega
theorem popc_at (m i : Nat) : ∀ n, i < popc m n → ∃ b, b < n ∧ m.testBit b = true ∧ popc m b = i
  | 0, h => absurd h (Nat.not_lt_zero i)
  | n + 1, h => by
    rcases Nat.lt_or_ge i (popc m n) with q | q
    · obtain ⟨b, h1, h2⟩ := popc_at m i n q
      exact ⟨b, by omega, h2⟩
    · rw [popc_s] at h
      by_cases e : m.testBit n = true
      · rw [if_pos e] at h
        exact ⟨n, by omega, e, by omega⟩
      · rw [if_neg e] at h
        exact absurd h (by omega)
theorem rnk_get {m i : Nat} (h : i < popc m 24) : ∃ b, b < 24 ∧ m.testBit b = true ∧ popc m b = i ∧ rnk m i 24 = b := by
  obtain ⟨b, h1, h2, h3⟩ := popc_at m i 24 h
  exact ⟨b, h1, h2, h3, rnk_at h2 h3 24 h1⟩
theorem or_bit (m b i : Nat) : (m ||| 2 ^ b).testBit i = (m.testBit i || decide (b = i)) := by rw [Nat.testBit_or, Nat.testBit_two_pow]
/-- a BELL more: below it nothing changes -/
theorem rnk_lo {m b i : Nat} (hm : m.testBit b = false) (hb : b < 24) (h : i < popc m b) : rnk m i 24 < b ∧ rnk (m ||| 2 ^ b) i 24 = rnk m i 24 := by
  obtain ⟨x, h1, h2, h3, h4⟩ := rnk_get (m := m) (i := i) (Nat.lt_of_lt_of_le h (popc_mn m 24 (by omega)))
  have hx : x < b := by
    rcases Nat.lt_or_ge x b with q | q
    · exact q
    · have := popc_mn m (a := b) x q; omega
  refine ⟨by omega, ?_⟩
  rw [h4]
  refine rnk_at ?_ ?_ 24 h1
  · rw [or_bit, h2]; rfl
  · rw [popc_or hm, if_neg (by omega)]; exact h3
theorem rnk_mid {m b : Nat} (hm : m.testBit b = false) (hb : b < 24) : rnk (m ||| 2 ^ b) (popc m b) 24 = b := by
  refine rnk_at ?_ ?_ 24 hb
  · rw [or_bit]; simp
  · rw [popc_or hm, if_neg (by omega)]; rfl
theorem rnk_hi {m b i : Nat} (hm : m.testBit b = false) (h : popc m b ≤ i) (h2 : i < popc m 24) : b < rnk m i 24 ∧ rnk (m ||| 2 ^ b) (i + 1) 24 = rnk m i 24 := by
  obtain ⟨x, x1, x2, x3, x4⟩ := rnk_get h2
  have hx : b < x := by
    rcases Nat.lt_or_ge b x with q | q
    · exact q
    · by_cases e : x = b
      · subst e; rw [hm] at x2; cases x2
      · have := popc_mn m (a := x + 1) b (by omega)
        rw [popc_s, if_pos x2] at this
        omega
  refine ⟨by omega, ?_⟩
  rw [x4]
  refine rnk_at ?_ ?_ 24 x1
  · rw [or_bit, x2]; rfl
  · rw [popc_or hm, if_pos hx]; omega
/-- BELLS one by one, as a mask -/
def orF (bs : Nat → Nat) : Nat → Nat
  | 0 => 0
  | k + 1 => orF bs k ||| 2 ^ bs k
def DsB (bs : Nat → Nat) (k : Nat) : Prop := ∀ j, j < k → bs j < 24 ∧ (orF bs j).testBit (bs j) = false
theorem orF_bit (bs : Nat → Nat) (b : Nat) : ∀ k, (orF bs k).testBit b = true ↔ ∃ i, i < k ∧ bs i = b
  | 0 => by simp [orF]
  | k + 1 => by
    rw [orF, or_bit, Bool.or_eq_true, orF_bit bs b k, decide_eq_true_eq]
    constructor
    · rintro (⟨i, h1, h2⟩ | h)
      · exact ⟨i, by omega, h2⟩
      · exact ⟨k, by omega, h⟩
    · rintro ⟨i, h1, h2⟩
      by_cases e : i = k
      · subst e; exact Or.inr h2
      · exact Or.inl ⟨i, by omega, h2⟩
theorem orF_cong {bs bs2 : Nat → Nat} : ∀ k, (∀ i, i < k → bs2 i = bs i) → orF bs2 k = orF bs k
  | 0, _ => rfl
  | k + 1, h => by rw [orF, orF, orF_cong k (fun i hi => h i (by omega)), h k (by omega)]
theorem DsB.le {bs : Nat → Nat} {k j : Nat} (h : DsB bs k) (hj : j ≤ k) : DsB bs j := fun i hi => h i (by omega)
theorem dsb_popc {bs : Nat → Nat} : ∀ {k : Nat}, DsB bs k → popc (orF bs k) 24 = k
  | 0, _ => by show popc 0 24 = 0; decide
  | k + 1, h => by
    have := h k (by omega)
    rw [orF, popc_or this.2, if_pos this.1, dsb_popc (h.le (Nat.le_succ k))]
/-- a STRIKE is put in at place k -/
def InsR (J J2 : wJn) (c k0 : Nat) (τ β : Int) : Prop := (∀ a, a ≠ 34 → a ≠ 39 → a ≠ 40 → J2 a = J a) ∧ (∀ b, b ≠ 10 → J2 34 b = J 34 b) ∧ J2 34 10 = ((c + 1 : Nat) : Int) ∧ (∀ i, i < k0 → J2 39 i = J 39 i ∧ J2 40 i = J 40 i) ∧ (J2 39 k0 = τ ∧ J2 40 k0 = β) ∧ (∀ i, k0 < i → i ≤ c → J2 39 i = J 39 (i - 1) ∧ J2 40 i = J 40 (i - 1))
section REF9
variable {n : Nat} {K : wKd} {J : wJn} {L : wLn} {R : wRf}
theorem s_X11_strikesHere0 (hy : Ly K R) {τ β q : Int} (hc : J 34 10 = 100) (hf : J 34 7 = 0) : S_X11_strikesHere [.ref 34, .int (iI τ), .int (iI β), .int (iI q)] n K (zw J) L R (Det none n K (zw (up2 (up2 J 34 7 4) 34 8 q)) L R) := by
  refine Sp_intro [some (.ref 34), some (.int (iI τ)), some (.int (iI β)), some (.int (iI q)), none] rfl rfl (Nat.le_of_ble_eq_true rfl) rfl ?_
  intro Γ C
  replace C : C_X11_strikesHere Γ := C
  refine w_aload_n (pc2 := 1) C dX11_strikesHere_0 rfl rfl ?_
  refine z_getI (pc2 := 4) C dX11_strikesHere_1 fl_X11_90 (by first | exact hy.k _ | assumption) rfl ?_
  refine w_bipush (pc2 := 6) (v := iI 100) C dX11_strikesHere_4 (by decide) rfl ?_
  -- at 6: .if_icmp .ne 9
  refine z_icmp_ne (pc2 := 9) (tgt := 15) C dX11_strikesHere_6 (by decide) rfl (by omega) (by omega) (fun g1 => ?_) (fun g1 => ?_)
  · exact absurd hc g1
  · skip
    refine w_aload_n (pc2 := 10) C dX11_strikesHere_9 rfl rfl ?_
    refine w_iconst (pc2 := 11) (v := iI 4) C dX11_strikesHere_10 (by decide) rfl ?_
    refine w_iload_n (pc2 := 12) C dX11_strikesHere_11 rfl rfl ?_
    -- at 12: .invokevirtual 72
    refine w_cVv (pc2 := 15)  C dX11_strikesHere_12 mb_X11_72 mv_X11_fail (s_X11_fail hy hf) (by first | exact hy.k _ | assumption) rfl (by decide) rfl rfl (Nat.le_of_ble_eq_true rfl) ⟨by decide, by decide⟩ ⟨rfl, rfl⟩ ⟨by decide, by decide⟩ rfl ?_
    have u7 : up2 (up2 J 34 7 4) 34 8 q 34 7 = 4 := by rw [up2_n _ _ _ _ (by omega), up2_s]
    refine w_aload_n (pc2 := 16) C dX11_strikesHere_15 rfl rfl ?_
    refine z_getI (pc2 := 19) C dX11_strikesHere_16 fl_X11_56 (by first | exact hy.k _ | assumption) rfl ?_
    -- at 19: .ifCond .eq 4
    refine z_if_eq (pc2 := 22) (tgt := 23) C dX11_strikesHere_19 (by decide) rfl (by omega) (fun g2 => ?_) (fun g2 => ?_)
    · exact absurd g2 (by omega)
    · skip
      exact w_ret C dX11_strikesHere_22 (by decide) (by decide) (⟨rfl, rfl, rfl, rfl, rfl, rfl⟩)
theorem s_X11_strikesHere (hy : Ly K R) {τ β q : Int} {c k0 : Nat} (hc : J 34 10 = c) (hc2 : c < 100) (hf : J 34 7 = 0) (hk0 : k0 ≤ c) (hhi : ∀ i, k0 ≤ i → i < c → J 39 i = τ ∧ β < J 40 i) (hlo : k0 = 0 ∨ J 39 (k0 - 1) ≠ τ ∨ J 40 (k0 - 1) ≤ β) (hbd : ∀ i, i < c → R32 (J 39 i) ∧ R32 (J 40 i)) (hτ : R32 τ) (hβ : R32 β) : S_X11_strikesHere [.ref 34, .int (iI τ), .int (iI β), .int (iI q)] n K (zw J) L R (fun r2 n2 K2 I2 L2 R2 => ∃ J2 : wJn, Det none n K (zw J2) L R r2 n2 K2 I2 L2 R2 ∧ InsR J J2 c k0 τ β) := by
  refine Sp_intro [some (.ref 34), some (.int (iI τ)), some (.int (iI β)), some (.int (iI q)), none] rfl rfl (Nat.le_of_ble_eq_true rfl) rfl ?_
  intro Γ C
  replace C : C_X11_strikesHere Γ := C
  generalize hpost : (fun (r2 : Option Value) (n2 : Nat) (K2 : wKd) (I2 : wIn) (L2 : wLn) (R2 : wRf) => ∃ J2 : wJn, Det none n K (zw J2) L R r2 n2 K2 I2 L2 R2 ∧ InsR J J2 c k0 τ β) = post
  have fin : ∀ J3 : wJn, (∀ a, a ≠ 39 → a ≠ 40 → J3 a = J a) → (∀ i, i < k0 → J3 39 i = J 39 i ∧ J3 40 i = J 40 i) → (∀ i, k0 < i → i ≤ c → J3 39 i = J 39 (i - 1) ∧ J3 40 i = J 40 (i - 1)) → wp Γ 0 0 (QQ Γ post) 98 [some (.ref 34), some (.int (iI τ)), some (.int (iI β)), some (.int (iI q)), some (.int (iI k0))] [] n K (zw J3) L R := by
    intro J3 c0 cl ch
    refine w_aload_n (pc2 := 99) C dX11_strikesHere_98 rfl rfl ?_
    refine w_getR (pc2 := 102) C dX11_strikesHere_99 fl_X11_24 (by first | exact hy.k _ | assumption) (by first | exact hy.r _ _ | assumption) rfl ?_
    refine w_iload (pc2 := 104) C dX11_strikesHere_102 rfl rfl ?_
    refine w_iload_n (pc2 := 105) C dX11_strikesHere_104 rfl rfl ?_
    -- at 105: .iastore
    refine z_iast (pc2 := 106) (j := k0) C dX11_strikesHere_105 (by first | exact hy.k _ | assumption) (by omega) (by omega) (by decide) rfl ?_
    refine w_aload_n (pc2 := 107) C dX11_strikesHere_106 rfl rfl ?_
    refine w_getR (pc2 := 110) C dX11_strikesHere_107 fl_X11_27 (by first | exact hy.k _ | assumption) (by first | exact hy.r _ _ | assumption) rfl ?_
    refine w_iload (pc2 := 112) C dX11_strikesHere_110 rfl rfl ?_
    refine w_iload_n (pc2 := 113) C dX11_strikesHere_112 rfl rfl ?_
    -- at 113: .iastore
    refine z_iast (pc2 := 114) (j := k0) C dX11_strikesHere_113 (by first | exact hy.k _ | assumption) (by omega) (by omega) (by decide) rfl ?_
    have e10 : up2 (up2 J3 39 k0 τ) 40 k0 β 34 10 = (c : Int) := by rw [up2_row (by decide), up2_row (by decide), c0 34 (by decide) (by decide)]; exact hc
    refine w_aload_n (pc2 := 115) C dX11_strikesHere_114 rfl rfl ?_
    refine w_dup (pc2 := 116) C dX11_strikesHere_115 rfl rfl ?_
    refine z_getI (pc2 := 119) C dX11_strikesHere_116 fl_X11_90 (by first | exact hy.k _ | assumption) rfl ?_
    refine w_iconst (pc2 := 120) (v := iI 1) C dX11_strikesHere_119 (by decide) rfl ?_
    refine z_iadd (pc2 := 121) C dX11_strikesHere_120 rfl ?_
    refine z_putI (pc2 := 124) C dX11_strikesHere_121 fl_X11_90 (by first | exact hy.k _ | assumption) (by rfl) (by rfl) rfl ?_
    -- at 124: .return_
    rw [e10]
    exact w_ret C dX11_strikesHere_124 (by decide) (by decide) (by
      rw [← hpost]
      have r39 : ∀ i, up2 (up2 (up2 J3 39 k0 τ) 40 k0 β) 34 10 ((c : Int) + 1) 39 i = up2 J3 39 k0 τ 39 i := fun i => by rw [up2_row (by decide), up2_row (by decide)]
      have r40 : ∀ i, up2 (up2 (up2 J3 39 k0 τ) 40 k0 β) 34 10 ((c : Int) + 1) 40 i = up2 J3 40 k0 β 40 i := fun i => by rw [up2_row (by decide)]; simp only [up2]; simp
      refine ⟨_, DetI rfl rfl, fun a a1 a2 a3 => by rw [up2_row a1, up2_row a3, up2_row a2]; exact c0 a a2 a3, fun b hb => by rw [up2_n _ _ _ _ (by omega), up2_row (by decide), up2_row (by decide), c0 34 (by decide) (by decide)], by rw [up2_s]; omega, fun i hi => ?_, ?_, fun i h1 h2 => ?_⟩
      · rw [r39, r40, up2_n _ _ _ _ (by omega), up2_n _ _ _ _ (by omega)]; exact cl i hi
      · rw [r39, r40, up2_s, up2_s]; exact ⟨rfl, rfl⟩
      · rw [r39, r40, up2_n _ _ _ _ (by omega), up2_n _ _ _ _ (by omega)]; exact ch i h1 h2)
  have key : ∀ (d k : Nat) (J3 : wJn), k0 + d = k → k ≤ c → (∀ a, a ≠ 39 → a ≠ 40 → J3 a = J a) → (∀ i, i < k → J3 39 i = J 39 i ∧ J3 40 i = J 40 i) → (∀ i, k < i → i ≤ c → J3 39 i = J 39 (i - 1) ∧ J3 40 i = J 40 (i - 1)) → wp Γ 0 0 (QQ Γ post) 29 [some (.ref 34), some (.int (iI τ)), some (.int (iI β)), some (.int (iI q)), some (.int (iI k))] [] n K (zw J3) L R := by
    intro d
    induction d with
    | zero =>
      intro k J3 hk hkc c0 cl ch
      have e : k = k0 := by omega
      subst e
      refine w_iload (pc2 := 31) C dX11_strikesHere_29 rfl rfl ?_
      -- at 31: .ifCond .le 67
      refine z_if_le (pc2 := 34) (tgt := 98) C dX11_strikesHere_31 (by decide) rfl (by omega) (fun g1 => ?_) (fun g1 => ?_)
      · exact fin J3 c0 cl ch
      · have b1 := hbd (k - 1) (by omega)
        have b2 := cl (k - 1) (by omega)
        refine w_aload_n (pc2 := 35) C dX11_strikesHere_34 rfl rfl ?_
        refine w_getR (pc2 := 38) C dX11_strikesHere_35 fl_X11_24 (by first | exact hy.k _ | assumption) (by first | exact hy.r _ _ | assumption) rfl ?_
        refine w_iload (pc2 := 40) C dX11_strikesHere_38 rfl rfl ?_
        refine w_iconst (pc2 := 41) (v := iI 1) C dX11_strikesHere_40 (by decide) rfl ?_
        refine z_isub (pc2 := 42) C dX11_strikesHere_41 rfl ?_
        -- at 42: .iaload
        refine z_iald (pc2 := 43) (j := k - 1) C dX11_strikesHere_42 (by first | exact hy.k _ | assumption) (by omega) (by omega) (by decide) rfl ?_
        rw [b2.1]
        refine w_iload_n (pc2 := 44) C dX11_strikesHere_43 rfl rfl ?_
        -- at 44: .if_icmp .ne 54
        refine z_icmp_ne (pc2 := 47) (tgt := 98) C dX11_strikesHere_44 (by decide) rfl (by omega) (by omega) (fun g2 => ?_) (fun g2 => ?_)
        · exact fin J3 c0 cl ch
        · skip
          refine w_aload_n (pc2 := 48) C dX11_strikesHere_47 rfl rfl ?_
          refine w_getR (pc2 := 51) C dX11_strikesHere_48 fl_X11_27 (by first | exact hy.k _ | assumption) (by first | exact hy.r _ _ | assumption) rfl ?_
          refine w_iload (pc2 := 53) C dX11_strikesHere_51 rfl rfl ?_
          refine w_iconst (pc2 := 54) (v := iI 1) C dX11_strikesHere_53 (by decide) rfl ?_
          refine z_isub (pc2 := 55) C dX11_strikesHere_54 rfl ?_
          -- at 55: .iaload
          refine z_iald (pc2 := 56) (j := k - 1) C dX11_strikesHere_55 (by first | exact hy.k _ | assumption) (by omega) (by omega) (by decide) rfl ?_
          rw [b2.2]
          refine w_iload_n (pc2 := 57) C dX11_strikesHere_56 rfl rfl ?_
          -- at 57: .if_icmp .le 41
          refine z_icmp_le (pc2 := 60) (tgt := 98) C dX11_strikesHere_57 (by decide) rfl (by omega) (by omega) (fun g3 => ?_) (fun g3 => ?_)
          · exact fin J3 c0 cl ch
          · rcases hlo with z | z | z
            · exact absurd z (by omega)
            · exact absurd g2 z
            · exact absurd z (by omega)
    | succ d ih =>
      intro k J3 hk hkc c0 cl ch
      have b1 := hbd (k - 1) (by omega)
      have b2 := cl (k - 1) (by omega)
      have b3 := hhi (k - 1) (by omega) (by omega)
      refine w_iload (pc2 := 31) C dX11_strikesHere_29 rfl rfl ?_
      -- at 31: .ifCond .le 67
      refine z_if_le (pc2 := 34) (tgt := 98) C dX11_strikesHere_31 (by decide) rfl (by omega) (fun g1 => ?_) (fun g1 => ?_)
      · exact absurd g1 (by omega)
      · skip
        refine w_aload_n (pc2 := 35) C dX11_strikesHere_34 rfl rfl ?_
        refine w_getR (pc2 := 38) C dX11_strikesHere_35 fl_X11_24 (by first | exact hy.k _ | assumption) (by first | exact hy.r _ _ | assumption) rfl ?_
        refine w_iload (pc2 := 40) C dX11_strikesHere_38 rfl rfl ?_
        refine w_iconst (pc2 := 41) (v := iI 1) C dX11_strikesHere_40 (by decide) rfl ?_
        refine z_isub (pc2 := 42) C dX11_strikesHere_41 rfl ?_
        -- at 42: .iaload
        refine z_iald (pc2 := 43) (j := k - 1) C dX11_strikesHere_42 (by first | exact hy.k _ | assumption) (by omega) (by omega) (by decide) rfl ?_
        rw [b2.1]
        refine w_iload_n (pc2 := 44) C dX11_strikesHere_43 rfl rfl ?_
        -- at 44: .if_icmp .ne 54
        refine z_icmp_ne (pc2 := 47) (tgt := 98) C dX11_strikesHere_44 (by decide) rfl (by omega) (by omega) (fun g2 => ?_) (fun g2 => ?_)
        · exact absurd b3.1 g2
        · skip
          refine w_aload_n (pc2 := 48) C dX11_strikesHere_47 rfl rfl ?_
          refine w_getR (pc2 := 51) C dX11_strikesHere_48 fl_X11_27 (by first | exact hy.k _ | assumption) (by first | exact hy.r _ _ | assumption) rfl ?_
          refine w_iload (pc2 := 53) C dX11_strikesHere_51 rfl rfl ?_
          refine w_iconst (pc2 := 54) (v := iI 1) C dX11_strikesHere_53 (by decide) rfl ?_
          refine z_isub (pc2 := 55) C dX11_strikesHere_54 rfl ?_
          -- at 55: .iaload
          refine z_iald (pc2 := 56) (j := k - 1) C dX11_strikesHere_55 (by first | exact hy.k _ | assumption) (by omega) (by omega) (by decide) rfl ?_
          rw [b2.2]
          refine w_iload_n (pc2 := 57) C dX11_strikesHere_56 rfl rfl ?_
          -- at 57: .if_icmp .le 41
          refine z_icmp_le (pc2 := 60) (tgt := 98) C dX11_strikesHere_57 (by decide) rfl (by omega) (by omega) (fun g3 => ?_) (fun g3 => ?_)
          · exact absurd b3.2 (by omega)
          · skip
            refine w_aload_n (pc2 := 61) C dX11_strikesHere_60 rfl rfl ?_
            refine w_getR (pc2 := 64) C dX11_strikesHere_61 fl_X11_24 (by first | exact hy.k _ | assumption) (by first | exact hy.r _ _ | assumption) rfl ?_
            refine w_iload (pc2 := 66) C dX11_strikesHere_64 rfl rfl ?_
            refine w_aload_n (pc2 := 67) C dX11_strikesHere_66 rfl rfl ?_
            refine w_getR (pc2 := 70) C dX11_strikesHere_67 fl_X11_24 (by first | exact hy.k _ | assumption) (by first | exact hy.r _ _ | assumption) rfl ?_
            refine w_iload (pc2 := 72) C dX11_strikesHere_70 rfl rfl ?_
            refine w_iconst (pc2 := 73) (v := iI 1) C dX11_strikesHere_72 (by decide) rfl ?_
            refine z_isub (pc2 := 74) C dX11_strikesHere_73 rfl ?_
            -- at 74: .iaload
            refine z_iald (pc2 := 75) (j := k - 1) C dX11_strikesHere_74 (by first | exact hy.k _ | assumption) (by omega) (by omega) (by decide) rfl ?_
            rw [b2.1]
            refine z_iast (pc2 := 76) (j := k) C dX11_strikesHere_75 (by first | exact hy.k _ | assumption) (by omega) (by omega) (by decide) rfl ?_
            refine w_aload_n (pc2 := 77) C dX11_strikesHere_76 rfl rfl ?_
            refine w_getR (pc2 := 80) C dX11_strikesHere_77 fl_X11_27 (by first | exact hy.k _ | assumption) (by first | exact hy.r _ _ | assumption) rfl ?_
            refine w_iload (pc2 := 82) C dX11_strikesHere_80 rfl rfl ?_
            refine w_aload_n (pc2 := 83) C dX11_strikesHere_82 rfl rfl ?_
            refine w_getR (pc2 := 86) C dX11_strikesHere_83 fl_X11_27 (by first | exact hy.k _ | assumption) (by first | exact hy.r _ _ | assumption) rfl ?_
            refine w_iload (pc2 := 88) C dX11_strikesHere_86 rfl rfl ?_
            refine w_iconst (pc2 := 89) (v := iI 1) C dX11_strikesHere_88 (by decide) rfl ?_
            refine z_isub (pc2 := 90) C dX11_strikesHere_89 rfl ?_
            -- at 90: .iaload
            refine z_iald (pc2 := 91) (j := k - 1) C dX11_strikesHere_90 (by first | exact hy.k _ | assumption) (by omega) (by omega) (by decide) rfl ?_
            rw [show up2 J3 39 k (J 39 (k - 1)) 40 (k - 1) = J 40 (k - 1) by rw [up2_row (by decide)]; exact b2.2]
            refine z_iast (pc2 := 92) (j := k) C dX11_strikesHere_91 (by first | exact hy.k _ | assumption) (by omega) (by omega) (by decide) rfl ?_
            refine w_iinc (pc2 := 95) C dX11_strikesHere_92 rfl (iI_add _ _) rfl (by decide) rfl rfl ?_
            try dsimp only [List.set]
            refine w_goto (tgt := 29) C dX11_strikesHere_95 (by decide) ?_
            -- at 29: .iload 4
            rw [show ((k : Int) + -1) = ((k - 1 : Nat) : Int) by omega]
            have r39 : ∀ i, up2 (up2 J3 39 k (J 39 (k - 1))) 40 k (J 40 (k - 1)) 39 i = up2 J3 39 k (J 39 (k - 1)) 39 i := fun i => by rw [up2_row (by decide)]
            have r40 : ∀ i, up2 (up2 J3 39 k (J 39 (k - 1))) 40 k (J 40 (k - 1)) 40 i = up2 J3 40 k (J 40 (k - 1)) 40 i := fun i => by simp only [up2]; simp
            refine ih (k - 1) _ (by omega) (by omega) (fun a a1 a2 => by rw [up2_row a2, up2_row a1]; exact c0 a a1 a2) (fun i hi => ?_) (fun i h1 h2 => ?_)
            · rw [r39, r40, up2_n _ _ _ _ (by omega), up2_n _ _ _ _ (by omega)]; exact cl i (by omega)
            · rw [r39, r40]
              by_cases e : i = k
              · subst e; rw [up2_s, up2_s]; exact ⟨rfl, rfl⟩
              · rw [up2_n _ _ _ _ (by omega), up2_n _ _ _ _ (by omega)]; exact ch i (by omega) h2
  refine w_aload_n (pc2 := 1) C dX11_strikesHere_0 rfl rfl ?_
  refine z_getI (pc2 := 4) C dX11_strikesHere_1 fl_X11_90 (by first | exact hy.k _ | assumption) rfl ?_
  refine w_bipush (pc2 := 6) (v := iI 100) C dX11_strikesHere_4 (by decide) rfl ?_
  -- at 6: .if_icmp .ne 9
  refine z_icmp_ne (pc2 := 9) (tgt := 15) C dX11_strikesHere_6 (by decide) rfl (by omega) (by omega) (fun g1 => ?_) (fun g1 => ?_)
  · skip
    refine w_aload_n (pc2 := 16) C dX11_strikesHere_15 rfl rfl ?_
    refine z_getI (pc2 := 19) C dX11_strikesHere_16 fl_X11_56 (by first | exact hy.k _ | assumption) rfl ?_
    -- at 19: .ifCond .eq 4
    refine z_if_eq (pc2 := 22) (tgt := 23) C dX11_strikesHere_19 (by decide) rfl (by omega) (fun g2 => ?_) (fun g2 => ?_)
    · skip
      refine w_aload_n (pc2 := 24) C dX11_strikesHere_23 rfl rfl ?_
      refine z_getI (pc2 := 27) C dX11_strikesHere_24 fl_X11_90 (by first | exact hy.k _ | assumption) rfl ?_
      refine w_istore (pc2 := 29) C dX11_strikesHere_27 rfl (by decide) rfl rfl ?_
      try dsimp only [List.set]
      -- at 29: .iload 4
      rw [hc]
      exact key (c - k0) c J (by omega) (Nat.le_refl c) (fun _ _ _ => rfl) (fun _ _ => ⟨rfl, rfl⟩) (fun i h1 h2 => absurd h1 (by omega))
    · exact absurd hf g2
  · exact absurd hc2 (by omega)
end REF9
