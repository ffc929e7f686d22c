/-- a FAULT of the reference -/
def FltR (J J2 : wJn) (f : Flt) : Prop := J2 34 7 = f.1 ∧ J2 34 8 = f.2 ∧ (1 ≤ f.1 ∧ f.1 ≤ 4) ∧ (∀ a, a ≠ 34 → a ≠ 39 → a ≠ 40 → a ≠ 41 → a ≠ 42 → a ≠ 43 → a ≠ 44 → J2 a = J a) ∧ J2 34 4 = J 34 4
def sgR (J : wJn) (s : Nat → Int) (t p : Nat) (x : Int) : wJn := if s (nb s t p) = x then up2 J 34 5 ((nb s t p : Int) + 1) else up2 (up2 (up2 J 34 5 (nb s t p)) 34 7 1) 34 8 (nb s t p)
/-- what group leaves -/
def RgR (J J2 : wJn) (o : Nat) (r : Flt ⊕ (Int × Nat)) : Prop := (∀ f, r = .inl f → FltR J J2 f) ∧ (∀ v e, r = .inr (v, e) → J2 34 7 = 0 ∧ J2 34 5 = (e : Nat) ∧ J2 34 16 = ((o + 1 : Nat) : Int) ∧ (∀ b, b ≠ 5 → b ≠ 7 → b ≠ 9 → b ≠ 16 → J2 34 b = J 34 b) ∧ (∀ a, a ≠ 34 → a ≠ 42 → a ≠ 43 → J2 a = J a) ∧ (∀ i, i ≠ o → J2 42 i = J 42 i ∧ J2 43 i = J 43 i) ∧ J2 42 o = (e : Nat) ∧ J2 43 o = v)
def enR (J : wJn) (q o : Nat) : wJn := if o = 0 then up2 (up2 J 34 7 1) 34 8 q else
  if 1 < J 43 (o - 1) then up2 (up2 J 43 (o - 1) (J 43 (o - 1) - 1)) 34 5 (J 42 (o - 1))
  else up2 (up2 (up2 J 43 (o - 1) (J 43 (o - 1) - 1)) 34 5 ((q : Int) + 1)) 34 16 ((o : Int) - 1)
def rLen (v : Int) (la lat : Nat) : Nat := if la = 0 then lenOf v lat else la
/-- what length leaves -/
def RlR (J J2 : wJn) (s : Nat → Int) (t p q la lat : Nat) (v : Int) : Prop := (∀ a, a ≠ 34 → a ≠ 41 → J2 a = J a) ∧ (∀ b, b ≠ 5 → b ≠ 7 → b ≠ 8 → b ≠ 9 → b ≠ 15 → J2 34 b = J 34 b) ∧ (0 ≤ v ∧ v < 1000) ∧ (∀ f, lng s t p = .inl f → J2 34 7 = f.1 ∧ J2 34 8 = f.2 ∧ (f.1 = 1 ∨ f.1 = 2)) ∧ (∀ u e, lng s t p = .inr (u, e) → J2 34 7 = 0 ∧ J2 34 8 = J 34 8 ∧ J2 34 5 = (e : Nat) ∧ v = (rLen u la lat : Nat) ∧ J2 34 15 = ((if la = 0 then rLen u la lat else lat : Nat) : Int) ∧ J2 41 q = (rLen u la lat : Nat) ∧ ∀ i, i ≠ q → J2 41 i = J 41 i)
section REF8
variable {n : Nat} {K : wKd} {J : wJn} {L : wLn} {R : wRf}
theorem s_X11_sign (hy : Ly K R) {s : Nat → Int} {t p : Nat} {x : Int} (hx : R32 x) (hT : TxR J s t) (hp : J 34 5 = p) (hpt : p ≤ t) (hf : J 34 7 = 0) : S_X11_sign [.ref 34, .int (iI x)] n K (zw J) L R (Det none n K (zw (sgR J s t p x)) L R) := by
  have hb := hT.2.1.bd (nb s t p)
  refine Sp_intro [some (.ref 34), some (.int (iI x))] rfl rfl (Nat.le_of_ble_eq_true rfl) rfl ?_
  intro Γ C
  replace C : C_X11_sign Γ := C
  refine w_aload_n (pc2 := 1) C dX11_sign_0 rfl rfl ?_
  -- at 1: .invokevirtual 68
  refine w_cVi (pc2 := 4)  C dX11_sign_1 mb_X11_68 mv_X11_next (s_X11_next hy hT hp hpt) (by first | exact hy.k _ | assumption) rfl (by decide) rfl rfl (Nat.le_of_ble_eq_true rfl) ⟨by decide, by decide⟩ ⟨rfl, rfl⟩ ⟨by decide, by decide⟩ rfl ?_
  refine w_iload_n (pc2 := 5) C dX11_sign_4 rfl rfl ?_
  -- at 5: .if_icmp .ne 16
  refine z_icmp_ne (pc2 := 8) (tgt := 21) C dX11_sign_5 (by decide) rfl (by omega) (by omega) (fun h1 => ?_) (fun h1 => ?_)
  · skip
    refine w_aload_n (pc2 := 22) C dX11_sign_21 rfl rfl ?_
    refine w_iconst (pc2 := 23) (v := iI 1) C dX11_sign_22 (by decide) rfl ?_
    refine w_aload_n (pc2 := 24) C dX11_sign_23 rfl rfl ?_
    refine z_getI (pc2 := 27) C dX11_sign_24 fl_X11_62 (by first | exact hy.k _ | assumption) rfl ?_
    -- at 27: .invokevirtual 72
    rw [up2_s]
    refine w_cVv (pc2 := 30)  C dX11_sign_27 mb_X11_72 mv_X11_fail (s_X11_fail hy (by rw [up2_n _ _ _ _ (by omega)]; exact hf)) (by first | exact hy.k _ | assumption) rfl (by decide) rfl rfl (Nat.le_of_ble_eq_true rfl) ⟨by decide, by decide⟩ ⟨rfl, rfl⟩ ⟨by decide, by decide⟩ rfl ?_
    -- at 30: .return_
    exact w_ret C dX11_sign_30 (by decide) (by decide) (DetI rfl (by rw [sgR, if_neg h1]))
  · skip
    refine w_aload_n (pc2 := 9) C dX11_sign_8 rfl rfl ?_
    refine w_dup (pc2 := 10) C dX11_sign_9 rfl rfl ?_
    refine z_getI (pc2 := 13) C dX11_sign_10 fl_X11_62 (by first | exact hy.k _ | assumption) rfl ?_
    refine w_iconst (pc2 := 14) (v := iI 1) C dX11_sign_13 (by decide) rfl ?_
    refine z_iadd (pc2 := 15) C dX11_sign_14 rfl ?_
    refine z_putI (pc2 := 18) C dX11_sign_15 fl_X11_62 (by first | exact hy.k _ | assumption) (by rfl) (by rfl) rfl ?_
    refine w_goto (tgt := 30) C dX11_sign_18 (by decide) ?_
    -- at 30: .return_
    rw [up2_s, up2_up2]
    exact w_ret C dX11_sign_30 (by decide) (by decide) (DetI rfl (by rw [sgR, if_pos h1]))
theorem s_X11_ends (hy : Ly K R) {q o : Nat} (hq : J 34 5 = q) (ho : J 34 16 = o) (ho2 : o ≤ 4) (hf : J 34 7 = 0) (hr : 0 < o → 0 ≤ J 43 (o - 1) ∧ J 43 (o - 1) ≤ 100) : S_X11_ends [.ref 34] n K (zw J) L R (Det none n K (zw (enR J q o)) L R) := by
  refine Sp_intro [some (.ref 34)] rfl rfl (Nat.le_of_ble_eq_true rfl) rfl ?_
  intro Γ C
  replace C : C_X11_ends Γ := C
  have e16 : ∀ x : Int, up2 J 43 (o - 1) x 34 16 = (o : Int) := fun x => by rw [up2_row (by decide)]; exact ho
  have e5 : ∀ x : Int, up2 J 43 (o - 1) x 34 5 = (q : Int) := fun x => by rw [up2_row (by decide)]; exact hq
  have e42 : ∀ x : Int, up2 J 43 (o - 1) x 42 (o - 1) = J 42 (o - 1) := fun x => by rw [up2_row (by decide)]
  refine w_aload_n (pc2 := 1) C dX11_ends_0 rfl rfl ?_
  refine z_getI (pc2 := 4) C dX11_ends_1 fl_X11_108 (by first | exact hy.k _ | assumption) rfl ?_
  -- at 4: .ifCond .ne 13
  refine z_if_ne (pc2 := 7) (tgt := 17) C dX11_ends_4 (by decide) rfl (by omega) (fun g1 => ?_) (fun g1 => ?_)
  · have hr2 := hr (by omega)
    refine w_aload_n (pc2 := 18) C dX11_ends_17 rfl rfl ?_
    refine w_getR (pc2 := 21) C dX11_ends_18 fl_X11_36 (by first | exact hy.k _ | assumption) (by first | exact hy.r _ _ | assumption) rfl ?_
    refine w_aload_n (pc2 := 22) C dX11_ends_21 rfl rfl ?_
    refine z_getI (pc2 := 25) C dX11_ends_22 fl_X11_108 (by first | exact hy.k _ | assumption) rfl ?_
    refine w_iconst (pc2 := 26) (v := iI 1) C dX11_ends_25 (by decide) rfl ?_
    refine z_isub (pc2 := 27) C dX11_ends_26 rfl ?_
    refine w_dup2 (pc2 := 28) C dX11_ends_27 rfl rfl rfl ?_
    -- at 28: .iaload
    refine z_iald (pc2 := 29) (j := o - 1) C dX11_ends_28 (by first | exact hy.k _ | assumption) (by omega) (by omega) (by decide) rfl ?_
    refine w_iconst (pc2 := 30) (v := iI 1) C dX11_ends_29 (by decide) rfl ?_
    refine z_isub (pc2 := 31) C dX11_ends_30 rfl ?_
    -- at 31: .iastore
    refine z_iast (pc2 := 32) (j := o - 1) C dX11_ends_31 (by first | exact hy.k _ | assumption) (by omega) (by omega) (by decide) rfl ?_
    have e16a := e16 (J 43 (o - 1) - 1)
    refine w_aload_n (pc2 := 33) C dX11_ends_32 rfl rfl ?_
    refine w_getR (pc2 := 36) C dX11_ends_33 fl_X11_36 (by first | exact hy.k _ | assumption) (by first | exact hy.r _ _ | assumption) rfl ?_
    refine w_aload_n (pc2 := 37) C dX11_ends_36 rfl rfl ?_
    refine z_getI (pc2 := 40) C dX11_ends_37 fl_X11_108 (by first | exact hy.k _ | assumption) rfl ?_
    refine w_iconst (pc2 := 41) (v := iI 1) C dX11_ends_40 (by decide) rfl ?_
    refine z_isub (pc2 := 42) C dX11_ends_41 rfl ?_
    -- at 42: .iaload
    refine z_iald (pc2 := 43) (j := o - 1) C dX11_ends_42 (by first | exact hy.k _ | assumption) (by omega) (by omega) (by decide) rfl ?_
    rw [up2_s]
    refine z_if_le (pc2 := 46) (tgt := 64) C dX11_ends_43 (by decide) rfl (by omega) (fun g2 => ?_) (fun g2 => ?_)
    · skip
      refine w_aload_n (pc2 := 65) C dX11_ends_64 rfl rfl ?_
      refine w_dup (pc2 := 66) C dX11_ends_65 rfl rfl ?_
      refine z_getI (pc2 := 69) C dX11_ends_66 fl_X11_62 (by first | exact hy.k _ | assumption) rfl ?_
      refine w_iconst (pc2 := 70) (v := iI 1) C dX11_ends_69 (by decide) rfl ?_
      refine z_iadd (pc2 := 71) C dX11_ends_70 rfl ?_
      refine z_putI (pc2 := 74) C dX11_ends_71 fl_X11_62 (by first | exact hy.k _ | assumption) (by rfl) (by rfl) rfl ?_
      refine w_aload_n (pc2 := 75) C dX11_ends_74 rfl rfl ?_
      refine w_dup (pc2 := 76) C dX11_ends_75 rfl rfl ?_
      refine z_getI (pc2 := 79) C dX11_ends_76 fl_X11_108 (by first | exact hy.k _ | assumption) rfl ?_
      refine w_iconst (pc2 := 80) (v := iI 1) C dX11_ends_79 (by decide) rfl ?_
      refine z_isub (pc2 := 81) C dX11_ends_80 rfl ?_
      refine z_putI (pc2 := 84) C dX11_ends_81 fl_X11_108 (by first | exact hy.k _ | assumption) (by rfl) (by rfl) rfl ?_
      -- at 84: .return_
      rw [e5]
      have e6 : up2 (up2 J 43 (o - 1) (J 43 (o - 1) - 1)) 34 5 ((q : Int) + 1) 34 16 = (o : Int) := by rw [up2_n _ _ _ _ (by omega)]; exact e16 _
      rw [e6]
      exact w_ret C dX11_ends_84 (by decide) (by decide) (DetI rfl (by rw [enR, if_neg (by omega), if_neg (by omega)]))
    · skip
      refine w_aload_n (pc2 := 47) C dX11_ends_46 rfl rfl ?_
      refine w_aload_n (pc2 := 48) C dX11_ends_47 rfl rfl ?_
      refine w_getR (pc2 := 51) C dX11_ends_48 fl_X11_33 (by first | exact hy.k _ | assumption) (by first | exact hy.r _ _ | assumption) rfl ?_
      refine w_aload_n (pc2 := 52) C dX11_ends_51 rfl rfl ?_
      refine z_getI (pc2 := 55) C dX11_ends_52 fl_X11_108 (by first | exact hy.k _ | assumption) rfl ?_
      refine w_iconst (pc2 := 56) (v := iI 1) C dX11_ends_55 (by decide) rfl ?_
      refine z_isub (pc2 := 57) C dX11_ends_56 rfl ?_
      -- at 57: .iaload
      refine z_iald (pc2 := 58) (j := o - 1) C dX11_ends_57 (by first | exact hy.k _ | assumption) (by omega) (by omega) (by decide) rfl ?_
      rw [e42]
      refine z_putI (pc2 := 61) C dX11_ends_58 fl_X11_62 (by first | exact hy.k _ | assumption) (by rfl) (by rfl) rfl ?_
      refine w_goto (tgt := 84) C dX11_ends_61 (by decide) ?_
      -- at 84: .return_
      exact w_ret C dX11_ends_84 (by decide) (by decide) (DetI rfl (by rw [enR, if_neg (by omega), if_pos (by omega)]))
  · skip
    refine w_aload_n (pc2 := 8) C dX11_ends_7 rfl rfl ?_
    refine w_iconst (pc2 := 9) (v := iI 1) C dX11_ends_8 (by decide) rfl ?_
    refine w_aload_n (pc2 := 10) C dX11_ends_9 rfl rfl ?_
    refine z_getI (pc2 := 13) C dX11_ends_10 fl_X11_62 (by first | exact hy.k _ | assumption) rfl ?_
    -- at 13: .invokevirtual 72
    rw [hq]
    refine w_cVv (pc2 := 16)  C dX11_ends_13 mb_X11_72 mv_X11_fail (s_X11_fail hy hf) (by first | exact hy.k _ | assumption) rfl (by decide) rfl rfl (Nat.le_of_ble_eq_true rfl) ⟨by decide, by decide⟩ ⟨rfl, rfl⟩ ⟨by decide, by decide⟩ rfl ?_
    -- at 16: .return_
    exact w_ret C dX11_ends_16 (by decide) (by decide) (DetI rfl (by rw [enR, if_pos (by omega)]))
theorem s_X11_length (hy : Ly K R) {s : Nat → Int} {t p q la lat : Nat} (hT : TxR J s t) (hp : J 34 5 = p) (hpt : p ≤ t) (hf : J 34 7 = 0) (hq : q < 1001) (hla : J 41 q = (la : Nat)) (hla2 : la ≤ 64) (hlat : J 34 15 = (lat : Nat)) (hlat2 : lat ≤ 64) : S_X11_length [.ref 34, .int (iI q)] n K (zw J) L R (fun r2 n2 K2 I2 L2 R2 => ∃ (J2 : wJn) (v : Int), Det (some (.int (iI v))) n K (zw J2) L R r2 n2 K2 I2 L2 R2 ∧ RlR J J2 s t p q la lat v) := by
  have h2 := hT.2.1
  have hb := h2.bd (nb s t p)
  have hql := nb_le (s := s) hpt
  refine Sp_intro [some (.ref 34), some (.int (iI q)), none, none] rfl rfl (Nat.le_of_ble_eq_true rfl) rfl ?_
  intro Γ C
  replace C : C_X11_length Γ := C
  generalize hpost : (fun (r2 : Option Value) (n2 : Nat) (K2 : wKd) (I2 : wIn) (L2 : wLn) (R2 : wRf) => ∃ (J2 : wJn) (v : Int), Det (some (.int (iI v))) n K (zw J2) L R r2 n2 K2 I2 L2 R2 ∧ RlR J J2 s t p q la lat v) = post
  have f82 : ∀ (J3 : wJn) (a b v : Int), J3 41 q = v → post (some (.int (iI v))) n K (zw J3) L R → wp Γ 0 0 (QQ Γ post) 82 [some (.ref 34), some (.int (iI q)), some (.int (iI a)), some (.int (iI b))] [] n K (zw J3) L R := by
    intro J3 a b v hv hP
    refine w_aload_n (pc2 := 83) C dX11_length_82 rfl rfl ?_
    refine w_getR (pc2 := 86) C dX11_length_83 fl_X11_30 (by first | exact hy.k _ | assumption) (by first | exact hy.r _ _ | assumption) rfl ?_
    refine w_iload_n (pc2 := 87) C dX11_length_86 rfl rfl ?_
    -- at 87: .iaload
    refine z_iald (pc2 := 88) (j := q) C dX11_length_87 (by first | exact hy.k _ | assumption) (by omega) (by omega) (by decide) rfl ?_
    rw [hv]
    -- at 88: .ireturn
    exact w_iret C dX11_length_88 (by decide) (by decide) (hP)
  have f71 : ∀ (J3 : wJn) (a b w : Int), post (some (.int (iI w))) n K (zw (up2 (up2 J3 41 q w) 34 15 w)) L R → wp Γ 0 0 (QQ Γ post) 71 [some (.ref 34), some (.int (iI q)), some (.int (iI a)), some (.int (iI b))] [.int (iI w), .int (iI q), .ref 41] n K (zw J3) L R := by
    intro J3 a b w hP
    refine z_iast (pc2 := 72) (j := q) C dX11_length_71 (by first | exact hy.k _ | assumption) (by omega) (by omega) (by decide) rfl ?_
    refine w_aload_n (pc2 := 73) C dX11_length_72 rfl rfl ?_
    refine w_aload_n (pc2 := 74) C dX11_length_73 rfl rfl ?_
    refine w_getR (pc2 := 77) C dX11_length_74 fl_X11_30 (by first | exact hy.k _ | assumption) (by first | exact hy.r _ _ | assumption) rfl ?_
    refine w_iload_n (pc2 := 78) C dX11_length_77 rfl rfl ?_
    -- at 78: .iaload
    refine z_iald (pc2 := 79) (j := q) C dX11_length_78 (by first | exact hy.k _ | assumption) (by omega) (by omega) (by decide) rfl ?_
    rw [up2_s]
    refine z_putI (pc2 := 82) C dX11_length_79 fl_X11_87 (by first | exact hy.k _ | assumption) (by rfl) (by rfl) rfl ?_
    -- at 82: .aload_n 0
    exact f82 _ a b w (by rw [up2_row (by decide), up2_s]) hP
  have f45 : ∀ (J3 : wJn) (a b w : Int), J3 41 q = (la : Nat) → ((a = 0 ∧ J3 34 15 = w) ∨ (a = 1 ∧ b = w)) → (la ≠ 0 → post (some (.int (iI (la : Nat)))) n K (zw J3) L R) → (la = 0 → post (some (.int (iI w))) n K (zw (up2 (up2 J3 41 q w) 34 15 w)) L R) → wp Γ 0 0 (QQ Γ post) 45 [some (.ref 34), some (.int (iI q)), some (.int (iI a)), some (.int (iI b))] [] n K (zw J3) L R := by
    intro J3 a b w h41 hw hP1 hP2
    refine w_aload_n (pc2 := 46) C dX11_length_45 rfl rfl ?_
    refine w_getR (pc2 := 49) C dX11_length_46 fl_X11_30 (by first | exact hy.k _ | assumption) (by first | exact hy.r _ _ | assumption) rfl ?_
    refine w_iload_n (pc2 := 50) C dX11_length_49 rfl rfl ?_
    -- at 50: .iaload
    refine z_iald (pc2 := 51) (j := q) C dX11_length_50 (by first | exact hy.k _ | assumption) (by omega) (by omega) (by decide) rfl ?_
    rw [h41]
    refine z_if_ne (pc2 := 54) (tgt := 82) C dX11_length_51 (by decide) rfl (by omega) (fun g1 => ?_) (fun g1 => ?_)
    · exact f82 J3 a b la h41 (hP1 (by omega))
    · skip
      refine w_aload_n (pc2 := 55) C dX11_length_54 rfl rfl ?_
      refine w_getR (pc2 := 58) C dX11_length_55 fl_X11_30 (by first | exact hy.k _ | assumption) (by first | exact hy.r _ _ | assumption) rfl ?_
      refine w_iload_n (pc2 := 59) C dX11_length_58 rfl rfl ?_
      refine w_iload_n (pc2 := 60) C dX11_length_59 rfl rfl ?_
      -- at 60: .ifCond .eq 7
      refine z_if_eq (pc2 := 63) (tgt := 67) C dX11_length_60 (by decide) rfl (by omega) (fun g2 => ?_) (fun g2 => ?_)
      · rcases hw with ⟨w1, w2⟩ | ⟨w1, w2⟩
        · skip
          refine w_aload_n (pc2 := 68) C dX11_length_67 rfl rfl ?_
          refine z_getI (pc2 := 71) C dX11_length_68 fl_X11_87 (by first | exact hy.k _ | assumption) rfl ?_
          -- at 71: .iastore
          rw [w2]
          exact f71 J3 a b w (hP2 (by omega))
        · exact absurd g2 (by omega)
      · rcases hw with ⟨w1, w2⟩ | ⟨w1, w2⟩
        · exact absurd w1 g2
        · skip
          refine w_iload_n (pc2 := 64) C dX11_length_63 rfl rfl ?_
          refine w_goto (tgt := 71) C dX11_length_64 (by decide) ?_
          -- at 71: .iastore
          rw [w2]
          exact f71 J3 a w w (hP2 (by omega))
  refine w_aload_n (pc2 := 1) C dX11_length_0 rfl rfl ?_
  -- at 1: .invokevirtual 68
  refine w_cVi (pc2 := 4)  C dX11_length_1 mb_X11_68 mv_X11_next (s_X11_next hy hT hp hpt) (by first | exact hy.k _ | assumption) rfl (by decide) rfl rfl (Nat.le_of_ble_eq_true rfl) ⟨by decide, by decide⟩ ⟨rfl, rfl⟩ ⟨by decide, by decide⟩ rfl ?_
  refine w_bipush (pc2 := 6) (v := iI 58) C dX11_length_4 (by decide) rfl ?_
  -- at 6: .if_icmp .ne 7
  refine z_icmp_ne (pc2 := 9) (tgt := 13) C dX11_length_6 (by decide) rfl (by omega) (by omega) (fun g1 => ?_) (fun g1 => ?_)
  · have hl : lng s t p = .inr (0, nb s t p) := by rw [lng, if_neg g1]
    have goal : ∀ J4 : wJn, ∀ v : Int, (∀ a, a ≠ 34 → a ≠ 41 → J4 a = J a) → (∀ b, b ≠ 5 → b ≠ 15 → J4 34 b = J 34 b) → J4 34 5 = (nb s t p : Nat) → v = (rLen 0 la lat : Nat) → J4 34 15 = ((if la = 0 then rLen 0 la lat else lat : Nat) : Int) → J4 41 q = (rLen 0 la lat : Nat) → (∀ i, i ≠ q → J4 41 i = J 41 i) → post (some (.int (iI v))) n K (zw J4) L R := by
      intro J4 v y1 y2 y3 y4 y5 y6 y7
      rw [← hpost]
      have hv : rLen 0 la lat ≤ 64 := by
        have e0 : lenOf 0 lat = lat := if_pos rfl
        unfold rLen
        rw [e0]
        split <;> omega
      refine ⟨J4, v, DetI rfl rfl, y1, fun b b5 b7 b8 b9 b15 => y2 b b5 b15, by omega, fun f hf2 => (by rw [hl] at hf2; cases hf2), fun u e hr => ?_⟩
      rw [hl] at hr
      injection hr with hr
      injection hr with z1 z2
      subst z1 z2
      exact ⟨by rw [y2 7 (by decide) (by decide)]; exact hf, y2 8 (by decide) (by decide), y3, y4, y5, y6, y7⟩
    refine w_iconst (pc2 := 14) (v := iI 0) C dX11_length_13 (by decide) rfl ?_
    refine w_istore_n (pc2 := 15) C dX11_length_14 rfl (by decide) rfl rfl ?_
    try dsimp only [List.set]
    refine w_iload_n (pc2 := 16) C dX11_length_15 rfl rfl ?_
    -- at 16: .ifCond .eq 13
    refine z_if_eq (pc2 := 19) (tgt := 29) C dX11_length_16 (by decide) rfl (by omega) (fun g2 => ?_) (fun g2 => ?_)
    · skip
      refine w_iload_n (pc2 := 30) C dX11_length_29 rfl rfl ?_
      -- at 30: .ifCond .eq 13
      refine z_if_eq (pc2 := 33) (tgt := 43) C dX11_length_30 (by decide) rfl (by omega) (fun g3 => ?_) (fun g3 => ?_)
      · skip
        refine w_iconst (pc2 := 44) (v := iI (-1)) C dX11_length_43 (by decide) rfl ?_
        refine w_istore_n (pc2 := 45) C dX11_length_44 rfl (by decide) rfl rfl ?_
        try dsimp only [List.set]
        -- at 45: .aload_n 0
        refine f45 _ 0 (-1) (lat : Nat) (by rw [up2_row (by decide)]; exact hla) (Or.inl ⟨rfl, by rw [up2_n _ _ _ _ (by omega)]; exact hlat⟩) (fun hne => ?_) (fun h0 => ?_)
        · have e : rLen 0 la lat = la := by rw [rLen, if_neg hne]
          refine goal _ _ (fun a a1 a2 => by rw [up2_row a1]) (fun b b5 b15 => by rw [up2_n _ _ _ _ (by omega)]) (by rw [up2_s]) (by rw [e]) (by rw [if_neg hne, up2_n _ _ _ _ (by omega)]; exact hlat) (by rw [e, up2_row (by decide)]; exact hla) (fun i hi => by rw [up2_row (by decide)])
        · have e : rLen 0 la lat = lat := by rw [rLen, if_pos h0, lenOf, if_pos rfl]
          refine goal _ _ (fun a a1 a2 => by rw [up2_row a1, up2_row a2, up2_row a1]) (fun b b5 b15 => by rw [up2_n _ _ _ _ (by omega), up2_row (by decide), up2_n _ _ _ _ (by omega)]) (by rw [up2_n _ _ _ _ (by omega), up2_row (by decide), up2_s]) (by rw [e]) (by rw [if_pos h0, up2_s, e]) (by rw [e, up2_row (by decide), up2_s]) (fun i hi => by rw [up2_row (by decide), up2_n _ _ _ _ (by omega), up2_row (by decide)])
      · exact absurd rfl g3
    · exact absurd rfl g2
  · have hlt : nb s t p < t := h2.lt (by omega)
    have hl : lng s t p = (match num s t (nb s t p + 1) 1 64 with
      | .inl f => .inl f
      | .inr (v, _, e) => .inr (v, e)) := by rw [lng, if_pos g1]; rfl
    refine w_iconst (pc2 := 10) (v := iI 1) C dX11_length_9 (by decide) rfl ?_
    refine w_goto (tgt := 14) C dX11_length_10 (by decide) ?_
    refine w_istore_n (pc2 := 15) C dX11_length_14 rfl (by decide) rfl rfl ?_
    try dsimp only [List.set]
    refine w_iload_n (pc2 := 16) C dX11_length_15 rfl rfl ?_
    -- at 16: .ifCond .eq 13
    refine z_if_eq (pc2 := 19) (tgt := 29) C dX11_length_16 (by decide) rfl (by omega) (fun g2 => ?_) (fun g2 => ?_)
    · exact absurd g2 (by decide)
    · skip
      refine w_aload_n (pc2 := 20) C dX11_length_19 rfl rfl ?_
      refine w_dup (pc2 := 21) C dX11_length_20 rfl rfl ?_
      refine z_getI (pc2 := 24) C dX11_length_21 fl_X11_62 (by first | exact hy.k _ | assumption) rfl ?_
      refine w_iconst (pc2 := 25) (v := iI 1) C dX11_length_24 (by decide) rfl ?_
      refine z_iadd (pc2 := 26) C dX11_length_25 rfl ?_
      refine z_putI (pc2 := 29) C dX11_length_26 fl_X11_62 (by first | exact hy.k _ | assumption) (by rfl) (by rfl) rfl ?_
      refine w_iload_n (pc2 := 30) C dX11_length_29 rfl rfl ?_
      -- at 30: .ifCond .eq 13
      rw [up2_s, up2_up2]
      refine z_if_eq (pc2 := 33) (tgt := 43) C dX11_length_30 (by decide) rfl (by omega) (fun g3 => ?_) (fun g3 => ?_)
      · exact absurd g3 (by decide)
      · skip
        refine w_aload_n (pc2 := 34) C dX11_length_33 rfl rfl ?_
        refine w_iconst (pc2 := 35) (v := iI 1) C dX11_length_34 (by decide) rfl ?_
        refine w_bipush (pc2 := 37) (v := iI 64) C dX11_length_35 (by decide) rfl ?_
        -- at 37: .invokevirtual 83
        refine w_gV (pc2 := 40)  C dX11_length_37 mb_X11_83 mv_X11_number (s_X11_number hy (by decide) (by decide) (s := s) (t := t) (p := nb s t p + 1) (hT.rows (up2_n _ _ _ _ (by omega)) (up2_row (by decide))) (by rw [up2_s]; omega) (by omega) (by rw [up2_n _ _ _ _ (by omega)]; exact hf)) (by first | exact hy.k _ | assumption) rfl (by decide) rfl rfl (Nat.le_of_ble_eq_true rfl) ⟨by decide, by decide⟩ ⟨rfl, rfl⟩ ⟨by decide, by decide⟩ rfl ?_
        rintro r2 n2 K2 I2 L2 R2 ⟨J4, v, hD, hN⟩
        obtain ⟨d1, d2, d3, d4, d5, d6⟩ := hD
        replace d2 := d2.symm
        replace d3 := d3.symm
        replace d5 := d5.symm
        replace d6 := d6.symm
        subst d1
        subst d2
        subst d3
        subst d4
        subst d5
        subst d6
        obtain ⟨n1, n2, n3, n4, n5, n6⟩ := hN
        have m41 : J4 41 = J 41 := by rw [n1 41 (by decide), up2_row (by decide)]
        have m15 : J4 34 15 = (lat : Nat) := by rw [n2 15 (by decide) (by decide) (by decide) (by decide), up2_n _ _ _ _ (by omega)]; exact hlat
        have ma : ∀ a, a ≠ 34 → J4 a = J a := fun a ha => by rw [n1 a ha, up2_row ha]
        have mb : ∀ b, b ≠ 5 → b ≠ 7 → b ≠ 8 → b ≠ 9 → J4 34 b = J 34 b := fun b b5 b7 b8 b9 => by rw [n2 b b5 b7 b8 b9, up2_n _ _ _ _ (by omega)]
        have m8 : up2 J 34 5 ((nb s t p : Int) + 1) 34 8 = J 34 8 := up2_n _ _ _ _ (by omega)
        refine w_goto (tgt := 44) C dX11_length_40 (by decide) ?_
        refine w_istore_n (pc2 := 45) C dX11_length_44 rfl (by decide) rfl rfl ?_
        try dsimp only [List.set]
        -- at 45: .aload_n 0
        refine f45 J4 1 v v (by rw [m41]; exact hla) (Or.inr ⟨rfl, rfl⟩) (fun hne => ?_) (fun h0 => ?_)
        · rw [← hpost]
          refine ⟨J4, _, DetI rfl rfl, fun a a1 a2 => ma a a1, fun b b5 b7 b8 b9 b15 => mb b b5 b7 b8 b9, by omega, fun f hf2 => ?_, fun u e hr => ?_⟩
          · rw [hl] at hf2
            rcases hn : num s t (nb s t p + 1) 1 64 with f2 | ⟨u2, q2, e2⟩
            · rw [hn] at hf2
              injection hf2 with hf2
              subst hf2
              exact n5 f2 hn
            · rw [hn] at hf2; cases hf2
          · rw [hl] at hr
            rcases hn : num s t (nb s t p + 1) 1 64 with f2 | ⟨u2, q2, e2⟩
            · rw [hn] at hr; cases hr
            · rw [hn] at hr
              injection hr with hr
              injection hr with z1 z2
              subst z1 z2
              obtain ⟨k1, k2, k3, k4, k5⟩ := n6 u2 q2 e2 hn
              have e : rLen u2 la lat = la := by rw [rLen, if_neg hne]
              exact ⟨k1, by rw [k2, m8], k3, by rw [e], by rw [if_neg hne]; exact m15, by rw [e, m41]; exact hla, fun i hi => by rw [m41]⟩
        · rw [← hpost]
          refine ⟨_, v, DetI rfl rfl, fun a a1 a2 => by rw [up2_row a1, up2_row a2]; exact ma a a1, fun b b5 b7 b8 b9 b15 => by rw [up2_n _ _ _ _ (by omega), up2_row (by decide)]; exact mb b b5 b7 b8 b9, n3, fun f hf2 => ?_, fun u e hr => ?_⟩
          · rw [hl] at hf2
            rcases hn : num s t (nb s t p + 1) 1 64 with f2 | ⟨u2, q2, e2⟩
            · rw [hn] at hf2
              injection hf2 with hf2
              subst hf2
              have := n5 f2 hn
              exact ⟨by rw [up2_n _ _ _ _ (by omega), up2_row (by decide)]; exact this.1, by rw [up2_n _ _ _ _ (by omega), up2_row (by decide)]; exact this.2.1, this.2.2⟩
            · rw [hn] at hf2; cases hf2
          · rw [hl] at hr
            rcases hn : num s t (nb s t p + 1) 1 64 with f2 | ⟨u2, q2, e2⟩
            · rw [hn] at hr; cases hr
            · rw [hn] at hr
              injection hr with hr
              injection hr with z1 z2
              subst z1 z2
              obtain ⟨k1, k2, k3, k4, k5⟩ := n6 u2 q2 e2 hn
              obtain ⟨o1, o2, o3⟩ := num_ok hn
              have e : v = (rLen u2 la lat : Nat) := by rw [rLen, if_pos h0, lenOf, if_neg (by omega), k5]; omega
              refine ⟨by rw [up2_n _ _ _ _ (by omega), up2_row (by decide)]; exact k1, by rw [up2_n _ _ _ _ (by omega), up2_row (by decide), k2, m8], by rw [up2_n _ _ _ _ (by omega), up2_row (by decide)]; exact k3, e, by rw [if_pos h0, up2_s]; exact e, by rw [up2_row (by decide), up2_s]; exact e, fun i hi => by rw [up2_row (by decide), up2_n _ _ _ _ (by omega), m41]⟩
theorem s_X11_group (hy : Ly K R) {s : Nat → Int} {t p o : Nat} (hT : TxR J s t) (hp : J 34 5 = p) (hpt : p ≤ t) (hf : J 34 7 = 0) (ho : J 34 16 = o) (ho2 : o ≤ 4) : S_X11_group [.ref 34] n K (zw J) L R (fun r2 n2 K2 I2 L2 R2 => ∃ J2 : wJn, Det none n K (zw J2) L R r2 n2 K2 I2 L2 R2 ∧ RgR J J2 o (opn s t p o)) := by
  have h2 := hT.2.1
  refine Sp_intro [some (.ref 34), none] rfl rfl (Nat.le_of_ble_eq_true rfl) rfl ?_
  intro Γ C
  replace C : C_X11_group Γ := C
  generalize hpost : (fun (r2 : Option Value) (n2 : Nat) (K2 : wKd) (I2 : wIn) (L2 : wLn) (R2 : wRf) => ∃ J2 : wJn, Det none n K (zw J2) L R r2 n2 K2 I2 L2 R2 ∧ RgR J J2 o (opn s t p o)) = post
  have bad : ∀ (J3 : wJn) (f : Flt), opn s t p o = .inl f → J3 34 7 = f.1 → J3 34 8 = f.2 → (1 ≤ f.1 ∧ f.1 ≤ 4) → (∀ a, a ≠ 34 → J3 a = J a) → J3 34 4 = J 34 4 → post none n K (zw J3) L R := by
    intro J3 f hr y1 y2 y3 y4 y5
    rw [← hpost]
    refine ⟨J3, DetI rfl rfl, fun f2 hf2 => ?_, fun v e he => by rw [hr] at he; cases he⟩
    rw [hr] at hf2
    injection hf2 with hf2
    subst hf2
    exact ⟨y1, y2, y3, fun a a1 _ _ _ _ _ _ => y4 a a1, y5⟩
  refine w_aload_n (pc2 := 1) C dX11_group_0 rfl rfl ?_
  refine w_iconst (pc2 := 2) (v := iI 1) C dX11_group_1 (by decide) rfl ?_
  refine w_bipush (pc2 := 4) (v := iI 9) C dX11_group_2 (by decide) rfl ?_
  -- at 4: .invokevirtual 83
  refine w_gV (pc2 := 7)  C dX11_group_4 mb_X11_83 mv_X11_number (s_X11_number hy (by decide) (by decide) hT hp hpt hf) (by first | exact hy.k _ | assumption) rfl (by decide) rfl rfl (Nat.le_of_ble_eq_true rfl) ⟨by decide, by decide⟩ ⟨rfl, rfl⟩ ⟨by decide, by decide⟩ rfl ?_
  rintro r2 n2 K2 I2 L2 R2 ⟨J1, v, hD, hN⟩
  obtain ⟨d1, d2, d3, d4, d5, d6⟩ := hD
  replace d2 := d2.symm
  replace d3 := d3.symm
  replace d5 := d5.symm
  replace d6 := d6.symm
  subst d1
  subst d2
  subst d3
  subst d4
  subst d5
  subst d6
  obtain ⟨n1, n2, n3, n4, n5, n6⟩ := hN
  have m4 : J1 34 4 = J 34 4 := n2 4 (by decide) (by decide) (by decide) (by decide)
  have m6 : J1 34 6 = J 34 6 := n2 6 (by decide) (by decide) (by decide) (by decide)
  have m16 : J1 34 16 = (o : Nat) := by rw [n2 16 (by decide) (by decide) (by decide) (by decide)]; exact ho
  refine w_istore_n (pc2 := 8) C dX11_group_7 rfl (by decide) rfl rfl ?_
  try dsimp only [List.set]
  refine w_aload_n (pc2 := 9) C dX11_group_8 rfl rfl ?_
  refine z_getI (pc2 := 12) C dX11_group_9 fl_X11_56 (by first | exact hy.k _ | assumption) rfl ?_
  -- at 12: .ifCond .ne 9
  rcases hn : num s t p 1 9 with f | ⟨u, q1, e1⟩
  · obtain ⟨k1, k2, k3⟩ := n5 f hn
    have hop : opn s t p o = .inl f := by rw [opn, hn]
    refine z_if_ne (pc2 := 15) (tgt := 21) C dX11_group_12 (by decide) rfl (by omega) (fun g1 => ?_) (fun g1 => ?_)
    · skip
      refine w_aload_n (pc2 := 22) C dX11_group_21 rfl rfl ?_
      refine z_getI (pc2 := 25) C dX11_group_22 fl_X11_56 (by first | exact hy.k _ | assumption) rfl ?_
      -- at 25: .ifCond .eq 4
      refine z_if_eq (pc2 := 28) (tgt := 29) C dX11_group_25 (by decide) rfl (by omega) (fun g2 => ?_) (fun g2 => ?_)
      · exact absurd g2 (by omega)
      · skip
        exact w_ret C dX11_group_28 (by decide) (by decide) (bad J1 f hop k1 k2 (by omega) n1 m4)
    · exact absurd g1 (by omega)
  · obtain ⟨k1, k2, k3, k4, k5⟩ := n6 u q1 e1 hn
    obtain ⟨o1, o2, o3, o4, o5, o6⟩ := num_ok hn
    have he1 : e1 ≤ t := by rw [o4]; exact dg_le h2 (nb_le (s := s) hpt)
    have hT1 : TxR J1 s t := hT.rows m6 (n1 38 (by decide))
    have hop : opn s t p o = (if s (nb s t e1) = 120 then (if s (nb s t (nb s t e1 + 1)) = 123 then (if 4 ≤ o then .inl (3, nb s t (nb s t e1 + 1)) else .inr (u, nb s t (nb s t e1 + 1) + 1)) else .inl (1, nb s t (nb s t e1 + 1))) else .inl (1, nb s t e1)) := by rw [opn, hn]
    refine z_if_ne (pc2 := 15) (tgt := 21) C dX11_group_12 (by decide) rfl (by omega) (fun g1 => ?_) (fun g1 => ?_)
    · exact absurd k1 g1
    · skip
      refine w_aload_n (pc2 := 16) C dX11_group_15 rfl rfl ?_
      refine w_bipush (pc2 := 18) (v := iI 120) C dX11_group_16 (by decide) rfl ?_
      -- at 18: .invokevirtual 104
      refine w_cVv (pc2 := 21)  C dX11_group_18 mb_X11_104 mv_X11_sign (s_X11_sign hy (by decide) hT1 k3 he1 k1) (by first | exact hy.k _ | assumption) rfl (by decide) rfl rfl (Nat.le_of_ble_eq_true rfl) ⟨by decide, by decide⟩ ⟨rfl, rfl⟩ ⟨by decide, by decide⟩ rfl ?_
      refine w_aload_n (pc2 := 22) C dX11_group_21 rfl rfl ?_
      refine z_getI (pc2 := 25) C dX11_group_22 fl_X11_56 (by first | exact hy.k _ | assumption) rfl ?_
      -- at 25: .ifCond .eq 4
      by_cases hx : s (nb s t e1) = 120
      · rw [if_pos hx] at hop
        rw [sgR, if_pos hx]
        have hlt : nb s t e1 < t := h2.lt (by omega)
        have w7 : up2 J1 34 5 ((nb s t e1 : Int) + 1) 34 7 = 0 := by rw [up2_n _ _ _ _ (by omega)]; exact k1
        refine z_if_eq (pc2 := 28) (tgt := 29) C dX11_group_25 (by decide) rfl (by omega) (fun g2 => ?_) (fun g2 => ?_)
        · skip
          refine w_aload_n (pc2 := 30) C dX11_group_29 rfl rfl ?_
          -- at 30: .invokevirtual 68
          refine w_cVi (pc2 := 33)  C dX11_group_30 mb_X11_68 mv_X11_next (s_X11_next hy (s := s) (t := t) (p := nb s t e1 + 1) (hT1.rows (up2_n _ _ _ _ (by omega)) (up2_row (by decide))) (by rw [up2_s]; omega) (by omega)) (by first | exact hy.k _ | assumption) rfl (by decide) rfl rfl (Nat.le_of_ble_eq_true rfl) ⟨by decide, by decide⟩ ⟨rfl, rfl⟩ ⟨by decide, by decide⟩ rfl ?_
          rw [up2_up2]
          have hb2 := h2.bd (nb s t (nb s t e1 + 1))
          have hl2 := nb_le (s := s) (t := t) (p := nb s t e1 + 1) (by omega)
          generalize nb s t (nb s t e1 + 1) = q3 at *
          have v7 : up2 J1 34 5 (q3 : Int) 34 7 = 0 := by rw [up2_n _ _ _ _ (by omega)]; exact k1
          have v16 : up2 J1 34 5 (q3 : Int) 34 16 = (o : Int) := by rw [up2_n _ _ _ _ (by omega)]; exact m16
          refine w_bipush (pc2 := 35) (v := iI 123) C dX11_group_33 (by decide) rfl ?_
          -- at 35: .if_icmp .eq 15
          refine z_icmp_eq (pc2 := 38) (tgt := 50) C dX11_group_35 (by decide) rfl (by omega) (by omega) (fun g3 => ?_) (fun g3 => ?_)
          · rw [if_pos g3] at hop
            refine w_aload_n (pc2 := 51) C dX11_group_50 rfl rfl ?_
            refine z_getI (pc2 := 54) C dX11_group_51 fl_X11_108 (by first | exact hy.k _ | assumption) rfl ?_
            refine w_iconst (pc2 := 55) (v := iI 4) C dX11_group_54 (by decide) rfl ?_
            -- at 55: .if_icmp .ne 12
            refine z_icmp_ne (pc2 := 58) (tgt := 67) C dX11_group_55 (by decide) rfl (by omega) (by omega) (fun g4 => ?_) (fun g4 => ?_)
            · rw [if_neg (by omega)] at hop
              refine w_aload_n (pc2 := 68) C dX11_group_67 rfl rfl ?_
              refine z_getI (pc2 := 71) C dX11_group_68 fl_X11_56 (by first | exact hy.k _ | assumption) rfl ?_
              -- at 71: .ifCond .eq 4
              refine z_if_eq (pc2 := 74) (tgt := 75) C dX11_group_71 (by decide) rfl (by omega) (fun g5 => ?_) (fun g5 => ?_)
              · skip
                refine w_aload_n (pc2 := 76) C dX11_group_75 rfl rfl ?_
                refine w_dup (pc2 := 77) C dX11_group_76 rfl rfl ?_
                refine z_getI (pc2 := 80) C dX11_group_77 fl_X11_62 (by first | exact hy.k _ | assumption) rfl ?_
                refine w_iconst (pc2 := 81) (v := iI 1) C dX11_group_80 (by decide) rfl ?_
                refine z_iadd (pc2 := 82) C dX11_group_81 rfl ?_
                refine z_putI (pc2 := 85) C dX11_group_82 fl_X11_62 (by first | exact hy.k _ | assumption) (by rfl) (by rfl) rfl ?_
                refine w_aload_n (pc2 := 86) C dX11_group_85 rfl rfl ?_
                refine w_getR (pc2 := 89) C dX11_group_86 fl_X11_33 (by first | exact hy.k _ | assumption) (by first | exact hy.r _ _ | assumption) rfl ?_
                refine w_aload_n (pc2 := 90) C dX11_group_89 rfl rfl ?_
                refine z_getI (pc2 := 93) C dX11_group_90 fl_X11_108 (by first | exact hy.k _ | assumption) rfl ?_
                refine w_aload_n (pc2 := 94) C dX11_group_93 rfl rfl ?_
                refine z_getI (pc2 := 97) C dX11_group_94 fl_X11_62 (by first | exact hy.k _ | assumption) rfl ?_
                -- at 97: .iastore
                rw [up2_s, up2_up2]
                have x16 : ∀ x : Int, up2 J1 34 5 x 34 16 = (o : Int) := fun x => by rw [up2_n _ _ _ _ (by omega)]; exact m16
                have x16a := x16 ((q3 : Int) + 1)
                rw [up2_s]
                refine z_iast (pc2 := 98) (j := o) C dX11_group_97 (by first | exact hy.k _ | assumption) (by omega) (by omega) (by decide) rfl ?_
                have y16a : up2 (up2 J1 34 5 ((q3 : Int) + 1)) 42 o ((q3 : Int) + 1) 34 16 = (o : Int) := by rw [up2_row (by decide)]; exact x16a
                refine w_aload_n (pc2 := 99) C dX11_group_98 rfl rfl ?_
                refine w_getR (pc2 := 102) C dX11_group_99 fl_X11_36 (by first | exact hy.k _ | assumption) (by first | exact hy.r _ _ | assumption) rfl ?_
                refine w_aload_n (pc2 := 103) C dX11_group_102 rfl rfl ?_
                refine z_getI (pc2 := 106) C dX11_group_103 fl_X11_108 (by first | exact hy.k _ | assumption) rfl ?_
                refine w_iload_n (pc2 := 107) C dX11_group_106 rfl rfl ?_
                -- at 107: .iastore
                refine z_iast (pc2 := 108) (j := o) C dX11_group_107 (by first | exact hy.k _ | assumption) (by omega) (by omega) (by decide) rfl ?_
                have z16a : up2 (up2 (up2 J1 34 5 ((q3 : Int) + 1)) 42 o ((q3 : Int) + 1)) 43 o v 34 16 = (o : Int) := by rw [up2_row (by decide)]; exact y16a
                refine w_aload_n (pc2 := 109) C dX11_group_108 rfl rfl ?_
                refine w_dup (pc2 := 110) C dX11_group_109 rfl rfl ?_
                refine z_getI (pc2 := 113) C dX11_group_110 fl_X11_108 (by first | exact hy.k _ | assumption) rfl ?_
                refine w_iconst (pc2 := 114) (v := iI 1) C dX11_group_113 (by decide) rfl ?_
                refine z_iadd (pc2 := 115) C dX11_group_114 rfl ?_
                refine z_putI (pc2 := 118) C dX11_group_115 fl_X11_108 (by first | exact hy.k _ | assumption) (by rfl) (by rfl) rfl ?_
                -- at 118: .return_
                rw [z16a]
                exact w_ret C dX11_group_118 (by decide) (by decide) (by
                  rw [← hpost]
                  refine ⟨_, DetI rfl rfl, fun f hf2 => (by rw [hop] at hf2; cases hf2), fun v2 e2 he => ?_⟩
                  rw [hop] at he
                  injection he with he
                  injection he with z1 z2
                  subst z1 z2
                  refine ⟨by rw [up2_n _ _ _ _ (by omega), up2_row (by decide), up2_row (by decide), up2_n _ _ _ _ (by omega)]; exact k1, by rw [up2_n _ _ _ _ (by omega), up2_row (by decide), up2_row (by decide), up2_s]; omega, by rw [up2_s]; omega, fun b b5 b7 b9 b16 => ?_, fun a a1 a2 a3 => by rw [up2_row a1, up2_row a3, up2_row a2, up2_row a1]; exact n1 a a1, fun i hi => ⟨by rw [up2_row (by decide), up2_row (by decide), up2_n _ _ _ _ (by omega), up2_row (by decide), n1 42 (by decide)], by rw [up2_row (by decide), up2_n _ _ _ _ (by omega), up2_row (by decide), up2_row (by decide), n1 43 (by decide)]⟩, by rw [up2_row (by decide), up2_row (by decide), up2_s]; omega, by rw [up2_row (by decide), up2_s]; exact k5⟩
                  rw [up2_n _ _ _ _ (by omega), up2_row (by decide), up2_row (by decide), up2_n _ _ _ _ (by omega)]
                  by_cases e8 : b = 8
                  · subst e8; exact k2
                  · exact n2 b b5 b7 e8 b9)
              · exact absurd v7 g5
            · rw [if_pos (by omega)] at hop
              refine w_aload_n (pc2 := 59) C dX11_group_58 rfl rfl ?_
              refine w_iconst (pc2 := 60) (v := iI 3) C dX11_group_59 (by decide) rfl ?_
              refine w_aload_n (pc2 := 61) C dX11_group_60 rfl rfl ?_
              refine z_getI (pc2 := 64) C dX11_group_61 fl_X11_62 (by first | exact hy.k _ | assumption) rfl ?_
              -- at 64: .invokevirtual 72
              rw [up2_s]
              refine w_cVv (pc2 := 67)  C dX11_group_64 mb_X11_72 mv_X11_fail (s_X11_fail hy v7) (by first | exact hy.k _ | assumption) rfl (by decide) rfl rfl (Nat.le_of_ble_eq_true rfl) ⟨by decide, by decide⟩ ⟨rfl, rfl⟩ ⟨by decide, by decide⟩ rfl ?_
              have u7 : up2 (up2 (up2 J1 34 5 (q3 : Int)) 34 7 3) 34 8 (q3 : Int) 34 7 = 3 := by rw [up2_n _ _ _ _ (by omega), up2_s]
              refine w_aload_n (pc2 := 68) C dX11_group_67 rfl rfl ?_
              refine z_getI (pc2 := 71) C dX11_group_68 fl_X11_56 (by first | exact hy.k _ | assumption) rfl ?_
              -- at 71: .ifCond .eq 4
              refine z_if_eq (pc2 := 74) (tgt := 75) C dX11_group_71 (by decide) rfl (by omega) (fun g5 => ?_) (fun g5 => ?_)
              · exact absurd g5 (by omega)
              · skip
                exact w_ret C dX11_group_74 (by decide) (by decide) (bad _ _ hop u7 (by rw [up2_s]) (by simp) (fun a ha => by rw [up2_row ha, up2_row ha, up2_row ha]; exact n1 a ha) (by rw [up2_n _ _ _ _ (by omega), up2_n _ _ _ _ (by omega), up2_n _ _ _ _ (by omega)]; exact m4))
          · rw [if_neg g3] at hop
            refine w_aload_n (pc2 := 39) C dX11_group_38 rfl rfl ?_
            refine w_iconst (pc2 := 40) (v := iI 1) C dX11_group_39 (by decide) rfl ?_
            refine w_aload_n (pc2 := 41) C dX11_group_40 rfl rfl ?_
            refine z_getI (pc2 := 44) C dX11_group_41 fl_X11_62 (by first | exact hy.k _ | assumption) rfl ?_
            -- at 44: .invokevirtual 72
            rw [up2_s]
            refine w_cVv (pc2 := 47)  C dX11_group_44 mb_X11_72 mv_X11_fail (s_X11_fail hy v7) (by first | exact hy.k _ | assumption) rfl (by decide) rfl rfl (Nat.le_of_ble_eq_true rfl) ⟨by decide, by decide⟩ ⟨rfl, rfl⟩ ⟨by decide, by decide⟩ rfl ?_
            have u7 : up2 (up2 (up2 J1 34 5 (q3 : Int)) 34 7 1) 34 8 (q3 : Int) 34 7 = 1 := by rw [up2_n _ _ _ _ (by omega), up2_s]
            refine w_goto (tgt := 67) C dX11_group_47 (by decide) ?_
            refine w_aload_n (pc2 := 68) C dX11_group_67 rfl rfl ?_
            refine z_getI (pc2 := 71) C dX11_group_68 fl_X11_56 (by first | exact hy.k _ | assumption) rfl ?_
            -- at 71: .ifCond .eq 4
            refine z_if_eq (pc2 := 74) (tgt := 75) C dX11_group_71 (by decide) rfl (by omega) (fun g5 => ?_) (fun g5 => ?_)
            · exact absurd g5 (by omega)
            · skip
              exact w_ret C dX11_group_74 (by decide) (by decide) (bad _ _ hop u7 (by rw [up2_s]) (by simp) (fun a ha => by rw [up2_row ha, up2_row ha, up2_row ha]; exact n1 a ha) (by rw [up2_n _ _ _ _ (by omega), up2_n _ _ _ _ (by omega), up2_n _ _ _ _ (by omega)]; exact m4))
        · exact absurd w7 g2
      · rw [if_neg hx] at hop
        rw [sgR, if_neg hx]
        have u7 : up2 (up2 (up2 J1 34 5 (nb s t e1 : Int)) 34 7 1) 34 8 (nb s t e1 : Int) 34 7 = 1 := by rw [up2_n _ _ _ _ (by omega), up2_s]
        refine z_if_eq (pc2 := 28) (tgt := 29) C dX11_group_25 (by decide) rfl (by omega) (fun g2 => ?_) (fun g2 => ?_)
        · exact absurd g2 (by omega)
        · skip
          exact w_ret C dX11_group_28 (by decide) (by decide) (bad _ _ hop u7 (by rw [up2_s]) (by simp) (fun a ha => by rw [up2_row ha, up2_row ha, up2_row ha]; exact n1 a ha) (by rw [up2_n _ _ _ _ (by omega), up2_n _ _ _ _ (by omega), up2_n _ _ _ _ (by omega)]; exact m4))
end REF8
