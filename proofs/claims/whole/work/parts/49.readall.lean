def Stk (J : wJn) : List Ent → Prop
  | [] => True
  | e :: l => J 7 l.length = e.b ∧ J 8 l.length = e.r ∧ J 9 l.length = e.la ∧ J 10 l.length = e.ta ∧ Stk J l
theorem Stk.cong {J J2 : wJn} : ∀ {l : List Ent}, (∀ i, i < l.length → J2 7 i = J 7 i ∧ J2 8 i = J 8 i ∧ J2 9 i = J 9 i ∧ J2 10 i = J 10 i) → Stk J l → Stk J2 l
  | [], _, _ => trivial
  | e :: l, h, hs => by
    obtain ⟨a, b, c, d⟩ := h l.length (Nat.lt_succ_self _)
    obtain ⟨h1, h2, h3, h4, h5⟩ := hs
    exact ⟨a.trans h1, b.trans h2, c.trans h3, d.trans h4, Stk.cong (fun i hi => h i (Nat.lt_succ_of_lt hi)) h5⟩
/-- the reader's memory, when a reading stands at x -/
def Rep (J0 J : wJn) (x : CS) : Prop := (∀ a, a < 3 ∨ 10 < a → J a = J0 a) ∧ J 3 9 = (x.p : Nat) ∧ J 3 8 = (x.st.length : Nat) ∧ J 3 11 = (x.len : Nat) ∧ J 3 12 = (x.tk : Nat) ∧ J 3 1 = 0 ∧ J 3 2 = -1 ∧ J 4 2 = (x.c : Nat) ∧ (∀ i, i < x.c → J 5 i = x.ft i ∧ J 6 i = x.fb i) ∧ Stk J x.st
/-- what a reading leaves -/
def RdA (J0 J : wJn) (r : Flt ⊕ CS) : Prop := (∀ a, a < 3 ∨ 10 < a → J a = J0 a) ∧ (∀ f, r = .inl f → J 3 1 = f.1 ∧ J 3 2 = f.2 ∧ f.1 ≠ 0) ∧ (∀ x, r = .inr x → J 3 1 = 0 ∧ J 3 2 = -1 ∧ J 4 2 = (x.c : Nat) ∧ J 4 3 = (x.tk : Nat) ∧ ∀ i, i < x.c → J 5 i = x.ft i ∧ J 6 i = x.fb i)
def okA (r : Flt ⊕ CS) : Int := match r with
  | .inl _ => 0
  | .inr _ => 1
theorem Rep.nb {J0 J : wJn} {x : CS} (h : Rep J0 J x) (q : Int) : ∀ J2, J2 = up2 J 3 9 q → (∀ a, a ≠ 3 → J2 a = J a) ∧ (∀ b, b ≠ 9 → J2 3 b = J 3 b) ∧ J2 3 9 = q := by
  intro J2 e
  subst e
  exact ⟨fun a ha => up2_row ha, fun b hb => up2_n _ _ _ _ (by omega), up2_s _ _ _ _⟩
theorem opn_f {s : Nat → Int} {t p o : Nat} {f : Flt} (h : opn s t p o = .inl f) : f.1 ≠ 0 := by
  unfold opn at h
  rcases hn : num s t p 1 9 with f2 | ⟨u, q1, e1⟩
  · rw [hn] at h
    have := num_k hn
    injection h with h
    subst h
    omega
  · rw [hn] at h
    change (if _ then _ else _) = _ at h
    split at h
    · split at h
      · split at h
        · injection h with h; subst h; show (3 : Int) ≠ 0; decide
        · cases h
      · injection h with h; subst h; show (1 : Int) ≠ 0; decide
    · injection h with h; subst h; show (1 : Int) ≠ 0; decide
section READALL
variable {n : Nat} {K : wKd} {J : wJn} {L : wLn} {R : wRf}
theorem s_X4_readAll (hy : Ly K R) {s : Nat → Int} {t f : Nat} {r : Flt ⊕ CS} (hT : Txt J s t) (hf : f ≤ 1000000) (hr : crun s t f cs0 = some r) : S_X4_readAll [.ref 3] n K (zw J) L R (fun r2 n2 K2 I2 L2 R2 => ∃ J2 : wJn, Det (some (.int (iI (okA r)))) n K (zw J2) L R r2 n2 K2 I2 L2 R2 ∧ RdA J J2 r) := by
  have h2 := hT.2.1
  have h3 := h2.1
  refine Sp_intro [some (.ref 3), none, none, none] rfl rfl (Nat.le_of_ble_eq_true rfl) rfl ?_
  intro Γ C
  replace C : C_X4_readAll Γ := C
  generalize hpost : (fun (r2 : Option Value) (n2 : Nat) (K2 : wKd) (I2 : wIn) (L2 : wLn) (R2 : wRf) => ∃ J2 : wJn, Det (some (.int (iI (okA r)))) n K (zw J2) L R r2 n2 K2 I2 L2 R2 ∧ RdA J J2 r) = post
  -- the end, with a FAULT or without
  have fin : ∀ (J2 : wJn) (k y : Int), RdA J (up2 J2 4 3 (J2 3 12)) r → (0 ≤ J2 3 1 ∧ J2 3 1 ≤ 4) → wp Γ 0 0 (QQ Γ post) 8 [some (.ref 3), some (.int (iI 0)), some (.int (iI k)), some (.int (iI y))] [] n K (zw J2) L R := by
    intro J2 k y hA hb
    have e31 : up2 J2 4 3 (J2 3 12) 3 = J2 3 := up2_row (by decide)
    refine w_iload_n (pc2 := 9) C dX4_readAll_8 rfl rfl ?_
    -- at 9: .ifCond .eq 118
    refine z_if_eq (pc2 := 12) (tgt := 127) C dX4_readAll_9 (by decide) rfl (by omega) (fun g1 => ?_) (fun g1 => ?_)
    · skip
      refine w_aload_n (pc2 := 128) C dX4_readAll_127 rfl rfl ?_
      refine w_getR (pc2 := 131) C dX4_readAll_128 fl_X4_12 (by first | exact hy.k _ | assumption) (by first | exact hy.r _ _ | assumption) rfl ?_
      refine w_aload_n (pc2 := 132) C dX4_readAll_131 rfl rfl ?_
      refine z_getI (pc2 := 135) C dX4_readAll_132 fl_X4_71 (by first | exact hy.k _ | assumption) rfl ?_
      refine z_putI (pc2 := 138) C dX4_readAll_135 fl_X4_74 (by first | exact hy.k _ | assumption) (by rfl) (by rfl) rfl ?_
      refine w_aload_n (pc2 := 139) C dX4_readAll_138 rfl rfl ?_
      refine z_getI (pc2 := 142) C dX4_readAll_139 fl_X4_68 (by first | exact hy.k _ | assumption) rfl ?_
      -- at 142: .ifCond .ne 7
      rw [e31]
      refine z_if_ne (pc2 := 145) (tgt := 149) C dX4_readAll_142 (by decide) rfl (by omega) (fun g2 => ?_) (fun g2 => ?_)
      · skip
        refine w_iconst (pc2 := 150) (v := iI 0) C dX4_readAll_149 (by decide) rfl ?_
        -- at 150: .ireturn
        exact w_zret C dX4_readAll_150 (Or.inl rfl) (by decide) (by decide) (by
          rw [← hpost]
          refine ⟨_, DetI ?_ rfl, hA⟩
          cases r with
          | inl f => rfl
          | inr x => have := (hA.2.2 x rfl).1; rw [e31] at this; exact absurd this g2)
      · skip
        refine w_iconst (pc2 := 146) (v := iI 1) C dX4_readAll_145 (by decide) rfl ?_
        refine w_goto (tgt := 150) C dX4_readAll_146 (by decide) ?_
        -- at 150: .ireturn
        exact w_zret C dX4_readAll_150 (Or.inr rfl) (by decide) (by decide) (by
          rw [← hpost]
          refine ⟨_, DetI ?_ rfl, hA⟩
          cases r with
          | inl f => have := hA.2.1 f rfl; rw [e31] at this; exact absurd (this.1.symm.trans g2) this.2.2
          | inr x => rfl)
    · exact absurd rfl g1
  have fin103 : ∀ (J2 : wJn) (k y : Int), R32 y → (y = -1 ∨ ¬ J2 3 1 = 0) → RdA J (up2 J2 4 3 (J2 3 12)) r → (0 ≤ J2 3 1 ∧ J2 3 1 ≤ 4) → wp Γ 0 0 (QQ Γ post) 103 [some (.ref 3), some (.int (iI 1)), some (.int (iI k)), some (.int (iI y))] [] n K (zw J2) L R := by
    intro J2 k y hy2 hc hA hb
    refine w_iload_n (pc2 := 104) C dX4_readAll_103 rfl rfl ?_
    refine w_iconst (pc2 := 105) (v := iI (-1)) C dX4_readAll_104 (by decide) rfl ?_
    -- at 105: .if_icmp .eq 14
    refine z_icmp_eq (pc2 := 108) (tgt := 119) C dX4_readAll_105 (by decide) rfl (by omega) (by omega) (fun g1 => ?_) (fun g1 => ?_)
    · skip
      refine w_iconst (pc2 := 120) (v := iI 0) C dX4_readAll_119 (by decide) rfl ?_
      refine w_istore_n (pc2 := 121) C dX4_readAll_120 rfl (by decide) rfl rfl ?_
      try dsimp only [List.set]
      refine w_iinc (pc2 := 124) C dX4_readAll_121 rfl (iI_add _ _) rfl (by decide) rfl rfl ?_
      try dsimp only [List.set]
      refine w_goto (tgt := 8) C dX4_readAll_124 (by decide) ?_
      -- at 8: .iload_n 1
      exact fin J2 _ _ hA hb
    · skip
      refine w_aload_n (pc2 := 109) C dX4_readAll_108 rfl rfl ?_
      refine z_getI (pc2 := 112) C dX4_readAll_109 fl_X4_68 (by first | exact hy.k _ | assumption) rfl ?_
      -- at 112: .ifCond .ne 7
      refine z_if_ne (pc2 := 115) (tgt := 119) C dX4_readAll_112 (by decide) rfl (by omega) (fun g2 => ?_) (fun g2 => ?_)
      · skip
        refine w_iconst (pc2 := 120) (v := iI 0) C dX4_readAll_119 (by decide) rfl ?_
        refine w_istore_n (pc2 := 121) C dX4_readAll_120 rfl (by decide) rfl rfl ?_
        try dsimp only [List.set]
        refine w_iinc (pc2 := 124) C dX4_readAll_121 rfl (iI_add _ _) rfl (by decide) rfl rfl ?_
        try dsimp only [List.set]
        refine w_goto (tgt := 8) C dX4_readAll_124 (by decide) ?_
        -- at 8: .iload_n 1
        exact fin J2 _ _ hA hb
      · exact absurd hc (by omega)
  have badA : ∀ (J2 : wJn) (f : Flt), (∀ a, a < 3 ∨ 10 < a → J2 a = J a) → J2 3 1 = f.1 → J2 3 2 = f.2 → f.1 ≠ 0 → r = .inl f → RdA J (up2 J2 4 3 (J2 3 12)) r := by
    intro J2 f a1 a2 a3 a4 a5
    subst a5
    refine ⟨fun a ha => by rw [up2_row (by omega)]; exact a1 a ha, fun f2 h => ?_, fun x h => by cases h⟩
    injection h with h
    subst h
    rw [up2_row (by decide)]
    exact ⟨a2, a3, a4⟩
  have cont : ∀ (J2 : wJn) (k y : Int), R32 y → y ≠ -1 → J2 3 1 = 0 → wp Γ 0 0 (QQ Γ post) 8 [some (.ref 3), some (.int (iI 1)), some (.int (iI (k + 1))), none] [] n K (zw J2) L R → wp Γ 0 0 (QQ Γ post) 103 [some (.ref 3), some (.int (iI 1)), some (.int (iI k)), some (.int (iI y))] [] n K (zw J2) L R := by
    intro J2 k y hy2 hc h1 hg
    refine w_iload_n (pc2 := 104) C dX4_readAll_103 rfl rfl ?_
    refine w_iconst (pc2 := 105) (v := iI (-1)) C dX4_readAll_104 (by decide) rfl ?_
    -- at 105: .if_icmp .eq 14
    refine z_icmp_eq (pc2 := 108) (tgt := 119) C dX4_readAll_105 (by decide) rfl (by omega) (by omega) (fun g1 => ?_) (fun g1 => ?_)
    · exact absurd g1 hc
    · skip
      refine w_aload_n (pc2 := 109) C dX4_readAll_108 rfl rfl ?_
      refine z_getI (pc2 := 112) C dX4_readAll_109 fl_X4_68 (by first | exact hy.k _ | assumption) rfl ?_
      -- at 112: .ifCond .ne 7
      refine z_if_ne (pc2 := 115) (tgt := 119) C dX4_readAll_112 (by decide) rfl (by omega) (fun g2 => ?_) (fun g2 => ?_)
      · exact absurd h1 g2
      · skip
        refine w_iconst (pc2 := 116) (v := iI 1) C dX4_readAll_115 (by decide) rfl ?_
        refine w_goto (tgt := 120) C dX4_readAll_116 (by decide) ?_
        refine w_istore_n (pc2 := 121) C dX4_readAll_120 rfl (by decide) rfl rfl ?_
        try dsimp only [List.set]
        refine w_iinc (pc2 := 124) C dX4_readAll_121 rfl (iI_add _ _) rfl (by decide) rfl rfl ?_
        try dsimp only [List.set]
        refine w_goto (tgt := 8) C dX4_readAll_124 (by decide) ?_
        -- at 8: .iload_n 1
        exact w_drop hg ⟨rfl, rfl, rfl, trivial⟩
  have key : ∀ (f k : Nat) (x : CS) (J2 : wJn), k + f ≤ 1000000 → crun s t f x = some r → WF t x → Rep J J2 x → wp Γ 0 0 (QQ Γ post) 8 [some (.ref 3), some (.int (iI 1)), some (.int (iI k)), none] [] n K (zw J2) L R := by
    intro f
    induction f with
    | zero => intro k x J2 hk hc; cases hc
    | succ f ih =>
      intro k x J2 hk hc hw hR
      have hR' := hR
      obtain ⟨a0, a9, a8, a11, a12, a1, a2, a42, a5, aS⟩ := hR
      have hw' := hw
      obtain ⟨w1, w2, w3, w4, w5, w6⟩ := hw
      have hT2 : Txt J2 s t := hT.rows (a0 1 (by omega)) (a0 2 (by omega))
      have hql := nb_le (s := s) w1
      have hqg := nb_ge s t x.p
      have hbd := h2.bd (nb s t x.p)
      have hnn := nb_nb h2 x.p
      have hstep : ∀ y, cstep s t x = .inr (some y) → WF t y := fun y => wf_step (s := s) (x := x) h2 ⟨w1, w2, w3, w4, w5, w6⟩
      rw [crun] at hc
      refine w_iload_n (pc2 := 9) C dX4_readAll_8 rfl rfl ?_
      -- at 9: .ifCond .eq 118
      refine z_if_eq (pc2 := 12) (tgt := 127) C dX4_readAll_9 (by decide) rfl (by omega) (fun g1 => ?_) (fun g1 => ?_)
      · exact absurd g1 (by decide)
      · skip
        refine w_iload_n (pc2 := 13) C dX4_readAll_12 rfl rfl ?_
        refine w_ldc (pc2 := 15) C dX4_readAll_13 kc_X4_38 rfl ?_
        -- at 15: .if_icmp .ge 112
        show wp Γ 0 0 _ _ _ [.int (iI 1000000), .int (iI k)] _ _ _ _ _
        refine z_icmp_ge (pc2 := 18) (tgt := 127) C dX4_readAll_15 (by decide) rfl (by omega) (by omega) (fun g2 => ?_) (fun g2 => ?_)
        · exact absurd g2 (by omega)
        · skip
          refine w_aload_n (pc2 := 19) C dX4_readAll_18 rfl rfl ?_
          -- at 19: .invokevirtual 39
          refine w_cVi (pc2 := 22)  C dX4_readAll_19 mb_X4_39 mv_X4_nextSign (s_X4_nextSign hy hT2 a9 w1) (by first | exact hy.k _ | assumption) rfl (by decide) rfl rfl (Nat.le_of_ble_eq_true rfl) ⟨by decide, by decide⟩ ⟨rfl, rfl⟩ ⟨by decide, by decide⟩ rfl ?_
          have hJ3 : ∃ J3, J3 = up2 J2 3 9 (nb s t x.p : Int) := ⟨_, rfl⟩
          obtain ⟨J3, eJ⟩ := hJ3
          rw [← eJ]
          obtain ⟨b0, bb, b9⟩ := hR'.nb _ J3 eJ
          have hT3 : Txt J3 s t := hT2.rows (b0 1 (by omega)) (b0 2 (by omega))
          have c0 : ∀ a, a < 3 ∨ 10 < a → J3 a = J a := fun a ha => by rw [b0 a (by omega)]; exact a0 a ha
          have c1 : J3 3 1 = 0 := by rw [bb 1 (by decide)]; exact a1
          have c2 : J3 3 2 = -1 := by rw [bb 2 (by decide)]; exact a2
          have c8 : J3 3 8 = (x.st.length : Nat) := by rw [bb 8 (by decide)]; exact a8
          have c11 : J3 3 11 = (x.len : Nat) := by rw [bb 11 (by decide)]; exact a11
          have c12 : J3 3 12 = (x.tk : Nat) := by rw [bb 12 (by decide)]; exact a12
          have c42 : J3 4 2 = (x.c : Nat) := by rw [b0 4 (by decide)]; exact a42
          have c5 : ∀ i, i < x.c → J3 5 i = x.ft i ∧ J3 6 i = x.fb i := fun i hi => by rw [b0 5 (by decide), b0 6 (by decide)]; exact a5 i hi
          have cS : Stk J3 x.st := aS.cong (fun i _ => by rw [b0 7 (by decide), b0 8 (by decide), b0 9 (by decide), b0 10 (by decide)]; exact ⟨rfl, rfl, rfl, rfl⟩)
          generalize hq : nb s t x.p = q at *
          generalize hyy : s q = y at *
          have hst : cstep s t x = (if IsD y then cOpn s t q x else if y = 125 then cCls q x else if IsI y then cItm s t q y x else if y = -1 ∧ x.st = [] then .inr none else .inl (1, q)) := by
            unfold cstep
            rw [hq, hyy]
          refine w_istore_n (pc2 := 23) C dX4_readAll_22 rfl (by decide) rfl rfl ?_
          try dsimp only [List.set]
          refine w_iload_n (pc2 := 24) C dX4_readAll_23 rfl rfl ?_
          -- at 24: .invokestatic 43
          refine w_cSi (pc2 := 27)  C dX4_readAll_24 mb_X4_43 ms_X4_isDigit (s_X4_isDigit (by omega)) rfl rfl (Nat.le_of_ble_eq_true rfl) ⟨by decide, by decide⟩ ⟨rfl, rfl⟩ ⟨by decide, by decide⟩ rfl ?_
          -- at 27: .ifCond .eq 10
          refine z_if_eq (pc2 := 30) (tgt := 37) C dX4_readAll_27 (by decide) rfl (by split <;> omega) (fun g3 => ?_) (fun g3 => ?_)
          · have hd : ¬ IsD y := fun z => by rw [if_pos z] at g3; exact absurd g3 (by decide)
            rw [if_neg hd] at hst
            refine w_iload_n (pc2 := 38) C dX4_readAll_37 rfl rfl ?_
            refine w_bipush (pc2 := 40) (v := iI 125) C dX4_readAll_38 (by decide) rfl ?_
            -- at 40: .if_icmp .ne 10
            refine z_icmp_ne (pc2 := 43) (tgt := 50) C dX4_readAll_40 (by decide) rfl (by omega) (by omega) (fun g4 => ?_) (fun g4 => ?_)
            · rw [if_neg g4] at hst
              have item : IsI y → wp Γ 0 0 (QQ Γ post) 74 [some (.ref 3), some (.int (iI 1)), some (.int (iI k)), some (.int (iI y))] [] n K (zw J3) L R := by
                intro hi
                rw [if_pos hi, cItm] at hst
                have hlt : q < t := h2.lt (by rw [hyy]; rcases hi with z | z | z | z <;> omega)
                have hxx : s q = 98 ∨ s q = 40 ∨ s q = 95 ∨ s q = 116 := by rw [hyy]; exact hi
                have hrd := s_X4_readItem (n := n) (K := K) (L := L) (R := R) hy hT3 (p := q) (c := x.c) (l := x.len) b9 hlt hxx c1 (by omega) c11 w3 c42 w5
                rw [hyy] at hrd
                refine w_aload_n (pc2 := 75) C dX4_readAll_74 rfl rfl ?_
                refine w_iload_n (pc2 := 76) C dX4_readAll_75 rfl rfl ?_
                -- at 76: .invokevirtual 53
                refine w_gV (pc2 := 79)  C dX4_readAll_76 mb_X4_53 mv_X4_readItem (hrd) (by first | exact hy.k _ | assumption) rfl (by decide) rfl rfl (Nat.le_of_ble_eq_true rfl) ⟨by decide, by decide⟩ ⟨rfl, rfl⟩ ⟨by decide, by decide⟩ rfl ?_
                rintro r2 n2 K2 I2 L2 R2 ⟨J4, hD, y1, y8, yc⟩
                obtain ⟨d1, d2, d3, d4, d5, d6⟩ := hD
                replace d2 := d2.symm
                replace d3 := d3.symm
                replace d5 := d5.symm
                replace d6 := d6.symm
                subst d1
                subst d2
                subst d3
                subst d4
                subst d5
                subst d6
                refine w_goto (tgt := 103) C dX4_readAll_79 (by decide) ?_
                -- at 103: .iload_n 3
                have hne : y ≠ -1 := by rcases hi with z | z | z | z <;> omega
                rcases yc with ⟨z1, z2⟩ | ⟨z1, ⟨fl, z2, z3, z4, z5, z6⟩ | ⟨m, a, b, v, e, z2, ⟨z3, z4, z5, z6⟩ | ⟨z3, z4, z5, z6, z9, z11, z12⟩⟩⟩
                · rw [if_pos (by omega)] at hst
                  rw [hst] at hc
                  injection hc with hc
                  refine fin103 J4 k y (by omega) (Or.inr ?_) (badA J4 (4, q) (fun a ha => by rw [z2, flJ_row (by omega)]; exact c0 a ha) ?_ ?_ (by show (4 : Int) ≠ 0; decide) hc.symm) y1
                  · rw [z2, flJ_1, if_pos c1]; decide
                  · rw [z2, flJ_1, if_pos c1]
                  · rw [z2, flJ_2, if_pos c1]
                · rw [if_neg (by omega), z2] at hst
                  change cstep s t x = .inl fl at hst
                  rw [hst] at hc
                  injection hc with hc
                  exact fin103 J4 k y (by omega) (Or.inr (by rw [z4]; exact z6)) (badA J4 fl (fun a ha => by rw [z3 a (by omega)]; exact c0 a ha) z4 z5 z6 hc.symm) y1
                · rw [if_neg (by omega), z2] at hst
                  change cstep s t x = (if _ then _ else _) at hst
                  rw [if_pos z3] at hst
                  rw [hst] at hc
                  injection hc with hc
                  exact fin103 J4 k y (by omega) (Or.inr (by rw [z5]; decide)) (badA J4 (4, q) (fun a ha => by rw [z4 a (by omega)]; exact c0 a ha) z5 z6 (by show (4 : Int) ≠ 0; decide) hc.symm) y1
                · rw [if_neg (by omega), z2] at hst
                  change cstep s t x = (if _ then _ else _) at hst
                  rw [if_neg (by omega)] at hst
                  have hw2 := hstep _ hst
                  rw [hst] at hc
                  refine cont J4 k y (by omega) hne z5 ?_
                  have e1 : ((k : Int) + 1) = ((k + 1 : Nat) : Int) := by omega
                  rw [e1]
                  obtain ⟨u1, u2, u3, u4, u5⟩ := z4
                  refine ih (k + 1) _ J4 (by omega) hc hw2 ⟨fun a ha => by rw [u1 a (by omega) (by omega) (by omega) (by omega)]; exact c0 a ha, z9, by rw [y8]; exact c8, z11, by rw [z12, c12]; rfl, z5, by rw [z6]; exact c2, u3, fun i hi2 => ?_, cS.cong (fun i _ => by rw [u1 7 (by decide) (by decide) (by decide) (by decide), u1 8 (by decide) (by decide) (by decide) (by decide), u1 9 (by decide) (by decide) (by decide) (by decide), u1 10 (by decide) (by decide) (by decide) (by decide)]; exact ⟨rfl, rfl, rfl, rfl⟩)⟩
                  change i < x.c + addOf y m (lenOf v x.len) at hi2
                  show J4 5 i = exF x.ft x.c (ftI y x.tk) i ∧ J4 6 i = exF x.fb x.c (fbI y m a b) i
                  unfold exF
                  by_cases hix : i < x.c
                  · rw [if_pos hix, if_pos hix, (u4 i hix).1, (u4 i hix).2]
                    exact c5 i hix
                  · rw [if_neg hix, if_neg hix]
                    have u6 := u5 (i - x.c) (by omega)
                    rw [show x.c + (i - x.c) = i by omega, c12] at u6
                    exact u6
              have other : ¬ IsI y → wp Γ 0 0 (QQ Γ post) 82 [some (.ref 3), some (.int (iI 1)), some (.int (iI k)), some (.int (iI y))] [] n K (zw J3) L R := by
                intro hi
                rw [if_neg hi] at hst
                have bad : ¬ (y = -1 ∧ x.st = []) → wp Γ 0 0 (QQ Γ post) 94 [some (.ref 3), some (.int (iI 1)), some (.int (iI k)), some (.int (iI y))] [] n K (zw J3) L R := by
                  intro hb
                  rw [if_neg hb] at hst
                  rw [hst] at hc
                  injection hc with hc
                  refine w_aload_n (pc2 := 95) C dX4_readAll_94 rfl rfl ?_
                  refine w_iconst (pc2 := 96) (v := iI 1) C dX4_readAll_95 (by decide) rfl ?_
                  refine w_aload_n (pc2 := 97) C dX4_readAll_96 rfl rfl ?_
                  refine z_getI (pc2 := 100) C dX4_readAll_97 fl_X4_61 (by first | exact hy.k _ | assumption) rfl ?_
                  -- at 100: .invokevirtual 64
                  rw [b9]
                  refine w_cVv (pc2 := 103)  C dX4_readAll_100 mb_X4_64 mv_X4_fail (s_X4_fail hy (by omega)) (by first | exact hy.k _ | assumption) rfl (by decide) rfl rfl (Nat.le_of_ble_eq_true rfl) ⟨by decide, by decide⟩ ⟨rfl, rfl⟩ ⟨by decide, by decide⟩ rfl ?_
                  refine fin103 _ k y (by omega) (Or.inr ?_) (badA _ (1, q) (fun a ha => by rw [flJ_row (by omega)]; exact c0 a ha) ?_ ?_ (by show (1 : Int) ≠ 0; decide) hc.symm) ?_
                  · rw [flJ_1, if_pos c1]; decide
                  · rw [flJ_1, if_pos c1]
                  · rw [flJ_2, if_pos c1]
                  · rw [flJ_1, if_pos c1]; omega
                refine w_iload_n (pc2 := 83) C dX4_readAll_82 rfl rfl ?_
                refine w_iconst (pc2 := 84) (v := iI (-1)) C dX4_readAll_83 (by decide) rfl ?_
                -- at 84: .if_icmp .ne 10
                refine z_icmp_ne (pc2 := 87) (tgt := 94) C dX4_readAll_84 (by decide) rfl (by omega) (by omega) (fun g5 => ?_) (fun g5 => ?_)
                · exact bad (fun z => g5 z.1)
                · skip
                  refine w_aload_n (pc2 := 88) C dX4_readAll_87 rfl rfl ?_
                  refine z_getI (pc2 := 91) C dX4_readAll_88 fl_X4_57 (by first | exact hy.k _ | assumption) rfl ?_
                  -- at 91: .ifCond .le 12
                  rw [c8]
                  refine z_if_le (pc2 := 94) (tgt := 103) C dX4_readAll_91 (by decide) rfl (by omega) (fun g6 => ?_) (fun g6 => ?_)
                  · have hnil : x.st = [] := List.length_eq_zero_iff.mp (by omega)
                    rw [if_pos ⟨g5, hnil⟩] at hst
                    rw [hst] at hc
                    injection hc with hc
                    refine fin103 J3 k y (by omega) (Or.inl g5) ?_ (by omega)
                    subst hc
                    refine ⟨fun a ha => by rw [up2_row (by omega)]; exact c0 a ha, (fun f h => by cases h), fun z hz => ?_⟩
                    injection hz with hz
                    subst hz
                    refine ⟨by rw [up2_row (by decide)]; exact c1, by rw [up2_row (by decide)]; exact c2, by rw [up2_n _ _ _ _ (by omega)]; exact c42, by rw [up2_s]; exact c12, fun i hi => by rw [up2_row (by decide), up2_row (by decide)]; exact c5 i hi⟩
                  · exact bad (fun z => by rw [z.2] at g6; exact g6 (by decide))
              refine w_iload_n (pc2 := 51) C dX4_readAll_50 rfl rfl ?_
              refine w_bipush (pc2 := 53) (v := iI 98) C dX4_readAll_51 (by decide) rfl ?_
              -- at 53: .if_icmp .eq 21
              refine z_icmp_eq (pc2 := 56) (tgt := 74) C dX4_readAll_53 (by decide) rfl (by omega) (by omega) (fun g5 => ?_) (fun g5 => ?_)
              · exact item (Or.inl g5)
              · skip
                refine w_iload_n (pc2 := 57) C dX4_readAll_56 rfl rfl ?_
                refine w_bipush (pc2 := 59) (v := iI 40) C dX4_readAll_57 (by decide) rfl ?_
                -- at 59: .if_icmp .eq 15
                refine z_icmp_eq (pc2 := 62) (tgt := 74) C dX4_readAll_59 (by decide) rfl (by omega) (by omega) (fun g6 => ?_) (fun g6 => ?_)
                · exact item (Or.inr (Or.inl g6))
                · skip
                  refine w_iload_n (pc2 := 63) C dX4_readAll_62 rfl rfl ?_
                  refine w_bipush (pc2 := 65) (v := iI 95) C dX4_readAll_63 (by decide) rfl ?_
                  -- at 65: .if_icmp .eq 9
                  refine z_icmp_eq (pc2 := 68) (tgt := 74) C dX4_readAll_65 (by decide) rfl (by omega) (by omega) (fun g7 => ?_) (fun g7 => ?_)
                  · exact item (Or.inr (Or.inr (Or.inl g7)))
                  · skip
                    refine w_iload_n (pc2 := 69) C dX4_readAll_68 rfl rfl ?_
                    refine w_bipush (pc2 := 71) (v := iI 116) C dX4_readAll_69 (by decide) rfl ?_
                    -- at 71: .if_icmp .ne 11
                    refine z_icmp_ne (pc2 := 74) (tgt := 82) C dX4_readAll_71 (by decide) rfl (by omega) (by omega) (fun g8 => ?_) (fun g8 => ?_)
                    · exact other (fun z => by rcases z with z | z | z | z <;> omega)
                    · exact item (Or.inr (Or.inr (Or.inr g8)))
            · rw [if_pos g4] at hst
              refine w_aload_n (pc2 := 44) C dX4_readAll_43 rfl rfl ?_
              -- at 44: .invokevirtual 50
              have hro : 0 < x.st.length → (-100 ≤ J3 8 (x.st.length - 1) ∧ J3 8 (x.st.length - 1) ≤ 100) ∧ R32 (J3 10 (x.st.length - 1)) := by
                intro hpos
                rcases hl : x.st with _ | ⟨e, l⟩
                · rw [hl] at hpos; exact absurd hpos (by decide)
                · have we := w6 e (by rw [hl]; exact List.mem_cons_self ..)
                  rw [hl] at cS
                  obtain ⟨d1, d2, d3, d4, d5⟩ := cS
                  show (-100 ≤ J3 8 (l.length + 1 - 1) ∧ _) ∧ _
                  rw [Nat.add_sub_cancel]
                  show (-100 ≤ J3 8 l.length ∧ J3 8 (l.length + 1 - 1) ≤ 100) ∧ R32 (J3 10 (l.length + 1 - 1))
                  rw [Nat.add_sub_cancel, d2, d4]
                  omega
              refine w_cVv (pc2 := 47)  C dX4_readAll_44 mb_X4_50 mv_X4_closeGroup (s_X4_closeGroup hy b9 c8 w2 c1 (fun z => (hro z).1) (fun z => (hro z).2) (by rw [c12]; omega)) (by first | exact hy.k _ | assumption) rfl (by decide) rfl rfl (Nat.le_of_ble_eq_true rfl) ⟨by decide, by decide⟩ ⟨rfl, rfl⟩ ⟨by decide, by decide⟩ rfl ?_
              refine w_goto (tgt := 103) C dX4_readAll_47 (by decide) ?_
              -- at 103: .iload_n 3
              unfold cCls at hst
              rcases hl : x.st with _ | ⟨e, l⟩
              · rw [hl] at hst
                change cstep s t x = .inl (1, q) at hst
                rw [hst] at hc
                injection hc with hc
                show wp Γ 0 0 _ 103 _ _ _ _ (zw (clJ J3 q 0)) _ _
                rw [clJ, if_pos rfl]
                refine fin103 _ k y (by omega) (Or.inr ?_) (badA _ (1, q) (fun a ha => by rw [flJ_row (by omega)]; exact c0 a ha) ?_ ?_ (by show (1 : Int) ≠ 0; decide) hc.symm) ?_
                · rw [flJ_1, if_pos c1]; decide
                · rw [flJ_1, if_pos c1]
                · rw [flJ_2, if_pos c1]
                · rw [flJ_1, if_pos c1]; omega
              · rw [hl] at hst
                have we := w6 e (by rw [hl]; exact List.mem_cons_self ..)
                rw [hl] at cS
                obtain ⟨d1, d2, d3, d4, d5⟩ := cS
                change cstep s t x = (if _ then _ else _) at hst
                show wp Γ 0 0 _ 103 _ _ _ _ (zw (clJ J3 q (l.length + 1))) _ _
                have e1 : ((k : Int) + 1) = ((k + 1 : Nat) : Int) := by omega
                have hl1 : (e :: l).length - 1 = l.length := rfl
                rw [clJ, if_neg (by omega), Nat.add_sub_cancel, d1, d2, d3, d4, c12]
                by_cases hag : 1 < e.r ∧ e.ta < x.tk
                · rw [if_pos hag] at hst
                  rw [if_pos (by omega)]
                  have hw2 := hstep _ hst
                  rw [hst] at hc
                  refine cont _ k y (by omega) (by omega) (by rw [up2_n _ _ _ _ (by omega), up2_n _ _ _ _ (by omega), up2_row (by decide)]; exact c1) ?_
                  rw [e1]
                  have r8 : ∀ i, up2 (up2 (up2 J3 8 l.length ((e.r : Int) - 1)) 3 9 (e.b : Nat)) 3 11 (e.la : Nat) 8 i = if i = l.length then ((e.r : Int) - 1) else J3 8 i := fun i => by
                    rw [up2_row (by decide), up2_row (by decide)]
                    by_cases z : i = l.length
                    · rw [z, up2_s, if_pos rfl]
                    · rw [up2_n _ _ _ _ (by omega), if_neg z]
                  have rr : ∀ a, a ≠ 3 → a ≠ 8 → up2 (up2 (up2 J3 8 l.length ((e.r : Int) - 1)) 3 9 (e.b : Nat)) 3 11 (e.la : Nat) a = J3 a := fun a a3 a8 => by rw [up2_row a3, up2_row a3, up2_row a8]
                  have r3 : ∀ b, b ≠ 9 → b ≠ 11 → up2 (up2 (up2 J3 8 l.length ((e.r : Int) - 1)) 3 9 (e.b : Nat)) 3 11 (e.la : Nat) 3 b = J3 3 b := fun b b9 b11 => by rw [up2_n _ _ _ _ (by omega), up2_n _ _ _ _ (by omega), up2_row (by decide)]
                  refine ih (k + 1) _ _ (by omega) hc hw2 ⟨fun a ha => by rw [rr a (by omega) (by omega)]; exact c0 a ha, by rw [up2_n _ _ _ _ (by omega), up2_s], by rw [r3 8 (by decide) (by decide), c8, hl]; rfl, by rw [up2_s], by rw [r3 12 (by decide) (by decide)]; exact c12, by rw [r3 1 (by decide) (by decide)]; exact c1, by rw [r3 2 (by decide) (by decide)]; exact c2, by rw [rr 4 (by decide) (by decide)]; exact c42, fun i hi => by rw [rr 5 (by decide) (by decide), rr 6 (by decide) (by decide)]; exact c5 i hi, ?_, ?_, ?_, ?_, ?_⟩
                  · rw [rr 7 (by decide) (by decide)]; exact d1
                  · rw [r8, if_pos rfl]; show (e.r : Int) - 1 = ((e.r - 1 : Nat) : Int); omega
                  · rw [rr 9 (by decide) (by decide)]; exact d3
                  · rw [rr 10 (by decide) (by decide)]; exact d4
                  · exact d5.cong (fun i hi => by rw [rr 7 (by decide) (by decide), rr 9 (by decide) (by decide), rr 10 (by decide) (by decide), r8, if_neg (by omega)]; exact ⟨rfl, rfl, rfl, rfl⟩)
                · rw [if_neg hag] at hst
                  rw [if_neg (by omega)]
                  have hw2 := hstep _ hst
                  rw [hst] at hc
                  refine cont _ k y (by omega) (by omega) (by rw [up2_n _ _ _ _ (by omega), up2_n _ _ _ _ (by omega), up2_row (by decide)]; exact c1) ?_
                  rw [e1]
                  have r8 : ∀ z w i, i < l.length → up2 (up2 (up2 J3 8 l.length ((e.r : Int) - 1)) 3 8 z) 3 9 w 8 i = J3 8 i := fun z w i hi => by
                    rw [up2_row (by decide), up2_row (by decide), up2_n _ _ _ _ (by omega)]
                  have rr : ∀ z w a, a ≠ 3 → a ≠ 8 → up2 (up2 (up2 J3 8 l.length ((e.r : Int) - 1)) 3 8 z) 3 9 w a = J3 a := fun z w a a3 a8 => by rw [up2_row a3, up2_row a3, up2_row a8]
                  have r3 : ∀ z w b, b ≠ 8 → b ≠ 9 → up2 (up2 (up2 J3 8 l.length ((e.r : Int) - 1)) 3 8 z) 3 9 w 3 b = J3 3 b := fun z w b b9 b11 => by rw [up2_n _ _ _ _ (by omega), up2_n _ _ _ _ (by omega), up2_row (by decide)]
                  refine ih (k + 1) _ _ (by omega) hc hw2 ⟨fun a ha => by rw [rr _ _ a (by omega) (by omega)]; exact c0 a ha, by rw [up2_s]; rfl, by rw [up2_n _ _ _ _ (by omega), up2_s]; show (((l.length + 1 : Nat) : Int) - 1 = (l.length : Nat)); omega, by rw [r3 _ _ 11 (by decide) (by decide)]; exact c11, by rw [r3 _ _ 12 (by decide) (by decide)]; exact c12, by rw [r3 _ _ 1 (by decide) (by decide)]; exact c1, by rw [r3 _ _ 2 (by decide) (by decide)]; exact c2, by rw [rr _ _ 4 (by decide) (by decide)]; exact c42, fun i hi => by rw [rr _ _ 5 (by decide) (by decide), rr _ _ 6 (by decide) (by decide)]; exact c5 i hi, ?_⟩
                  exact d5.cong (fun i hi => by rw [rr _ _ 7 (by decide) (by decide), rr _ _ 9 (by decide) (by decide), rr _ _ 10 (by decide) (by decide), r8 _ _ i hi]; exact ⟨rfl, rfl, rfl, rfl⟩)
          · have hd : IsD y := by
              rcases Decidable.em (IsD y) with z | z
              · exact z
              · rw [if_neg z] at g3; exact absurd rfl g3
            rw [if_pos hd, cOpn] at hst
            refine w_aload_n (pc2 := 31) C dX4_readAll_30 rfl rfl ?_
            -- at 31: .invokevirtual 47
            refine w_gV (pc2 := 34)  C dX4_readAll_31 mb_X4_47 mv_X4_openGroup (s_X4_openGroup hy hT3 b9 hql c1 c8 w2) (by first | exact hy.k _ | assumption) rfl (by decide) rfl rfl (Nat.le_of_ble_eq_true rfl) ⟨by decide, by decide⟩ ⟨rfl, rfl⟩ ⟨by decide, by decide⟩ rfl ?_
            rintro r2 n2 K2 I2 L2 R2 ⟨J4, hD, y1, yf, yo⟩
            obtain ⟨d1, d2, d3, d4, d5, d6⟩ := hD
            replace d2 := d2.symm
            replace d3 := d3.symm
            replace d5 := d5.symm
            replace d6 := d6.symm
            subst d1
            subst d2
            subst d3
            subst d4
            subst d5
            subst d6
            refine w_goto (tgt := 103) C dX4_readAll_34 (by decide) ?_
            -- at 103: .iload_n 3
            rcases ho : opn s t q x.st.length with fl | ⟨v, e⟩
            · rw [ho] at hst
              change cstep s t x = .inl fl at hst
              rw [hst] at hc
              injection hc with hc
              obtain ⟨z1, z2, z3, z4⟩ := yf fl ho
              exact fin103 J4 k y (by omega) (Or.inr (by rw [z1]; exact z3)) (badA J4 fl (fun a ha => by rw [z4 a (by omega)]; exact c0 a ha) z1 z2 z3 hc.symm) y1
            · rw [ho] at hst
              have hw2 := hstep _ hst
              rw [hst] at hc
              obtain ⟨z1, z2, z9, z8, z11, z12, zr, zi, z7o, z8o, z9o, z10o⟩ := yo v e ho
              have hok := opn_ok h2 hql ho
              refine cont J4 k y (by omega) (by omega) z1 ?_
              have e1 : ((k : Int) + 1) = ((k + 1 : Nat) : Int) := by omega
              rw [e1]
              refine ih (k + 1) _ J4 (by omega) hc hw2 ⟨fun a ha => by rw [zr a (by omega) (by omega) (by omega) (by omega) (by omega)]; exact c0 a ha, z9, z8, by rw [z11]; exact c11, by rw [z12]; exact c12, z1, by rw [z2]; exact c2, by rw [zr 4 (by decide) (by decide) (by decide) (by decide) (by decide)]; exact c42, fun i hi => by rw [zr 5 (by decide) (by decide) (by decide) (by decide) (by decide), zr 6 (by decide) (by decide) (by decide) (by decide) (by decide)]; exact c5 i hi, z7o, ?_, by rw [z9o]; exact c11, by rw [z10o]; exact c12, cS.cong (fun i hi => zi i (by omega))⟩
              rw [z8o]
              show v = ((v.toNat : Nat) : Int)
              omega
  refine w_aload_n (pc2 := 1) C dX4_readAll_0 rfl rfl ?_
  -- at 1: .invokevirtual 35
  refine w_cVv (pc2 := 4)  C dX4_readAll_1 mb_X4_35 mv_X4_start (s_X4_start hy) (by first | exact hy.k _ | assumption) rfl (by decide) rfl rfl (Nat.le_of_ble_eq_true rfl) ⟨by decide, by decide⟩ ⟨rfl, rfl⟩ ⟨by decide, by decide⟩ rfl ?_
  refine w_iconst (pc2 := 5) (v := iI 1) C dX4_readAll_4 (by decide) rfl ?_
  refine w_istore_n (pc2 := 6) C dX4_readAll_5 rfl (by decide) rfl rfl ?_
  try dsimp only [List.set]
  refine w_iconst (pc2 := 7) (v := iI 0) C dX4_readAll_6 (by decide) rfl ?_
  refine w_istore_n (pc2 := 8) C dX4_readAll_7 rfl (by decide) rfl rfl ?_
  try dsimp only [List.set]
  -- at 8: .iload_n 1
  refine key f 0 cs0 (stJ J) (by omega) hr (wf0 t) ⟨fun a ha => ?_, ?_, ?_, ?_, ?_, ?_, ?_, ?_, fun i hi => absurd hi (Nat.not_lt_zero i), trivial⟩
  · unfold stJ
    rw [up2_row (by omega), up2_row (by omega), up2_row (by omega), up2_row (by omega), up2_row (by omega), up2_row (by omega), up2_row (by omega), up2_row (by omega)]
  · simp [stJ, up2, cs0]
  · show stJ J 3 8 = ((0 : Nat) : Int); simp [stJ, up2]
  · simp [stJ, up2, cs0]
  · simp [stJ, up2, cs0]
  · simp [stJ, up2]
  · simp [stJ, up2]
  · simp [stJ, up2, cs0]
/-- what score() leaves -/
def scJ (J2 : wJn) (r : Flt ⊕ CS) : wJn := match r with
  | .inl _ => up2 (up2 (up2 J2 1 1 0) 11 4 (J2 3 1)) 11 5 (J2 3 2)
  | .inr _ => up2 (cpSc (up2 (up2 (up2 J2 1 1 0) 11 4 (J2 3 1)) 11 5 (J2 3 2)) 12 4) 0 7 0
def scR (r : Flt ⊕ CS) : Int := match r with
  | .inl _ => -1
  | .inr x => (x.c : Nat)
theorem s_X10_score (hy : Ly K R) {s : Nat → Int} {t f : Nat} {r : Flt ⊕ CS} (hT : Txt J s t) (hf : f ≤ 1000000) (hr : crun s t f cs0 = some r) : S_X10_score [.ref 0] n K (zw J) L R (fun r2 n2 K2 I2 L2 R2 => ∃ J2 : wJn, Det (some (.int (iI (scR r)))) n K (zw (scJ J2 r)) L R r2 n2 K2 I2 L2 R2 ∧ RdA J J2 r) := by
  refine Sp_intro [some (.ref 0), none] rfl rfl (Nat.le_of_ble_eq_true rfl) rfl ?_
  intro Γ C
  replace C : C_X10_score Γ := C
  refine w_aload_n (pc2 := 1) C dX10_score_0 rfl rfl ?_
  refine w_getR (pc2 := 4) C dX10_score_1 fl_X10_21 (by first | exact hy.k _ | assumption) (by first | exact hy.r _ _ | assumption) rfl ?_
  -- at 4: .invokevirtual 79
  refine w_gV (pc2 := 7)  C dX10_score_4 mb_X10_79 mv_X4_readAll (s_X4_readAll hy hT hf hr) (by first | exact hy.k _ | assumption) rfl (by decide) rfl rfl (Nat.le_of_ble_eq_true rfl) ⟨by decide, by decide⟩ ⟨rfl, rfl⟩ ⟨by decide, by decide⟩ rfl ?_
  rintro r2 n2 K2 I2 L2 R2 ⟨J2, hD, hA⟩
  obtain ⟨d1, d2, d3, d4, d5, d6⟩ := hD
  replace d2 := d2.symm
  replace d3 := d3.symm
  replace d5 := d5.symm
  replace d6 := d6.symm
  subst d1
  subst d2
  subst d3
  subst d4
  subst d5
  subst d6
  refine w_istore_n (pc2 := 8) C dX10_score_7 rfl (by decide) rfl rfl ?_
  try dsimp only [List.set]
  refine w_aload_n (pc2 := 9) C dX10_score_8 rfl rfl ?_
  refine w_getR (pc2 := 12) C dX10_score_9 fl_X10_10 (by first | exact hy.k _ | assumption) (by first | exact hy.r _ _ | assumption) rfl ?_
  refine w_iconst (pc2 := 13) (v := iI 0) C dX10_score_12 (by decide) rfl ?_
  refine z_putI (pc2 := 16) C dX10_score_13 fl_X10_75 (by first | exact hy.k _ | assumption) (by rfl) (by rfl) rfl ?_
  refine w_aload_n (pc2 := 17) C dX10_score_16 rfl rfl ?_
  refine w_getR (pc2 := 20) C dX10_score_17 fl_X10_28 (by first | exact hy.k _ | assumption) (by first | exact hy.r _ _ | assumption) rfl ?_
  refine w_aload_n (pc2 := 21) C dX10_score_20 rfl rfl ?_
  refine w_getR (pc2 := 24) C dX10_score_21 fl_X10_21 (by first | exact hy.k _ | assumption) (by first | exact hy.r _ _ | assumption) rfl ?_
  refine z_getI (pc2 := 27) C dX10_score_24 fl_X10_82 (by first | exact hy.k _ | assumption) rfl ?_
  refine z_putI (pc2 := 30) C dX10_score_27 fl_X10_85 (by first | exact hy.k _ | assumption) (by rfl) (by rfl) rfl ?_
  refine w_aload_n (pc2 := 31) C dX10_score_30 rfl rfl ?_
  refine w_getR (pc2 := 34) C dX10_score_31 fl_X10_28 (by first | exact hy.k _ | assumption) (by first | exact hy.r _ _ | assumption) rfl ?_
  refine w_aload_n (pc2 := 35) C dX10_score_34 rfl rfl ?_
  refine w_getR (pc2 := 38) C dX10_score_35 fl_X10_21 (by first | exact hy.k _ | assumption) (by first | exact hy.r _ _ | assumption) rfl ?_
  refine z_getI (pc2 := 41) C dX10_score_38 fl_X10_86 (by first | exact hy.k _ | assumption) rfl ?_
  refine z_putI (pc2 := 44) C dX10_score_41 fl_X10_89 (by first | exact hy.k _ | assumption) (by rfl) (by rfl) rfl ?_
  refine w_iload_n (pc2 := 45) C dX10_score_44 rfl rfl ?_
  -- at 45: .ifCond .ne 5
  rw [show up2 J2 1 1 0 3 1 = J2 3 1 by rw [up2_row (by decide)], show up2 (up2 J2 1 1 0) 11 4 (J2 3 1) 3 2 = J2 3 2 by rw [up2_row (by decide), up2_row (by decide)]]
  cases r with
  | inl fl =>
    refine z_if_ne (pc2 := 48) (tgt := 50) C dX10_score_45 (by decide) rfl (by show R32 0; omega) (fun g1 => ?_) (fun g1 => ?_)
    · exact absurd rfl g1
    · skip
      refine w_iconst (pc2 := 49) (v := iI (-1)) C dX10_score_48 (by decide) rfl ?_
      -- at 49: .ireturn
      exact w_iret C dX10_score_49 (by decide) (by decide) (⟨J2, DetI rfl rfl, hA⟩)
  | inr x =>
    -- at 45: .ifCond .ne 5
    refine z_if_ne (pc2 := 48) (tgt := 50) C dX10_score_45 (by decide) rfl (by show R32 1; omega) (fun g1 => ?_) (fun g1 => ?_)
    · skip
      refine w_aload_n (pc2 := 51) C dX10_score_50 rfl rfl ?_
      refine w_getR (pc2 := 54) C dX10_score_51 fl_X10_28 (by first | exact hy.k _ | assumption) (by first | exact hy.r _ _ | assumption) rfl ?_
      refine w_getR (pc2 := 57) C dX10_score_54 fl_X10_38 (by first | exact hy.k _ | assumption) (by first | exact hy.r _ _ | assumption) rfl ?_
      refine w_aload_n (pc2 := 58) C dX10_score_57 rfl rfl ?_
      refine w_getR (pc2 := 61) C dX10_score_58 fl_X10_21 (by first | exact hy.k _ | assumption) (by first | exact hy.r _ _ | assumption) rfl ?_
      refine w_getR (pc2 := 64) C dX10_score_61 fl_X10_90 (by first | exact hy.k _ | assumption) (by first | exact hy.r _ _ | assumption) rfl ?_
      -- at 64: .invokevirtual 93
      refine w_cVv (pc2 := 67)  C dX10_score_64 mb_X10_93 mv_X5_copyFrom (s_X5_copyFrom (a := 12) (b := 4) hy.m.2.2.2.2.2.1 hy.d) (by first | exact hy.k _ | assumption) rfl (by decide) rfl rfl (Nat.le_of_ble_eq_true rfl) ⟨by decide, by decide⟩ ⟨rfl, rfl⟩ ⟨by decide, by decide⟩ rfl ?_
      refine w_aload_n (pc2 := 68) C dX10_score_67 rfl rfl ?_
      refine w_iconst (pc2 := 69) (v := iI 0) C dX10_score_68 (by decide) rfl ?_
      refine z_putI (pc2 := 72) C dX10_score_69 fl_X10_63 (by first | exact hy.k _ | assumption) (by rfl) (by rfl) rfl ?_
      refine w_aload_n (pc2 := 73) C dX10_score_72 rfl rfl ?_
      refine w_getR (pc2 := 76) C dX10_score_73 fl_X10_28 (by first | exact hy.k _ | assumption) (by first | exact hy.r _ _ | assumption) rfl ?_
      refine w_getR (pc2 := 79) C dX10_score_76 fl_X10_38 (by first | exact hy.k _ | assumption) (by first | exact hy.r _ _ | assumption) rfl ?_
      refine z_getI (pc2 := 82) C dX10_score_79 fl_X10_98 (by first | exact hy.k _ | assumption) rfl ?_
      -- at 82: .ireturn
      exact w_iret C dX10_score_82 (by decide) (by decide) (by
        refine ⟨J2, DetI ?_ rfl, hA⟩
        have h1 := (hA.2.2 x rfl).2.2.1
        simp [cpSc, cpyJ, up2, up1, h1, scR])
    · exact absurd g1 (show ¬ (1 : Int) = 0 by decide)
end READALL
