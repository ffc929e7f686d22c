/-- the reference's first numbers -/
def d0 (k : Nat) : Int := if k = 202 then 4 else if k = 203 then 100 else if 204 ≤ k ∧ k < 228 then 8 else if k = 228 then 3142 else if k = 229 then 64 else if k = 230 then -1 else if k = 232 then -1 else 0
theorem up2_i {α : Type} (f : Nat → Nat → α) (i k b : Nat) (x : α) : up2 f i k x i b = if b = k then x else f i b := by simp [up2]
def Mdl (K K3 : wKd) (J J3 : wJn) (L L3 : wLn) (R R3 : wRf) : Prop := (∀ i, i < 34 → K3 i = K i ∧ J3 i = J i ∧ L3 i = L i ∧ R3 i = R i) ∧ (∀ i, 34 ≤ i ∧ i < 48 → K3 i = KT i) ∧ (∀ i, 34 ≤ i ∧ i < 48 → ∀ k, R3 i k = RT i k) ∧ (∀ k, J3 35 k = d0 k) ∧ J3 34 4 = 0 ∧ (∀ k, J3 37 k = 0) ∧ (∀ k, L3 36 k = 0)
section INITS
variable {n : Nat} {K : wKd} {J : wJn} {L : wLn} {R : wRf}
theorem s_X11_init (hk : K 34 = (11, 0)) (hr : ∀ k, R 34 k = none) (hj : ∀ k, J 34 k = 0) : S_X11_init [.ref 34] 35 K (zw J) L R (fun r2 n2 K2 I2 L2 R2 => ∃ (K3 : wKd) (J3 : wJn) (L3 : wLn) (R3 : wRf), Det none 48 K3 (zw J3) L3 R3 r2 n2 K2 I2 L2 R2 ∧ Mdl K K3 J J3 L L3 R R3) := by
  refine Sp_intro [some (.ref 34), none] rfl rfl (Nat.le_of_ble_eq_true rfl) rfl ?_
  intro Γ C
  replace C : C_X11_init Γ := C
  generalize hpost : (fun (r2 : Option Value) (n2 : Nat) (K2 : wKd) (I2 : wIn) (L2 : wLn) (R2 : wRf) => ∃ (K3 : wKd) (J3 : wJn) (L3 : wLn) (R3 : wRf), Det none 48 K3 (zw J3) L3 R3 r2 n2 K2 I2 L2 R2 ∧ Mdl K K3 J J3 L L3 R R3) = post
  have rest : ∀ (K3 : wKd) (J3 : wJn) (L3 : wLn) (R3 : wRf) (c1 s1 : Nat), c1 ≤ 13 → s1 ≤ rmX11_init.slots → (∀ i, i < 34 → K3 i = K i ∧ J3 i = J i ∧ L3 i = L i ∧ R3 i = R i) → (∀ i, 34 ≤ i ∧ i < 48 → K3 i = KT i) → (∀ i, 34 ≤ i ∧ i < 48 → ∀ k, R3 i k = RT i k) → (∀ k, J3 35 k = 0) → J3 34 4 = 0 → (∀ k, J3 37 k = 0) → (∀ k, L3 36 k = 0) → wp Γ c1 s1 (QQ Γ post) 108 [some (.ref 34), none] [] 48 K3 (zw J3) L3 R3 := by
    intro K3 J3 L3 R3 c1 s1 hc1 hs1 a1 a2 a3 a4 a5 a6 a7
    have k34 : K3 34 = (11, 0) := a2 34 (by omega)
    have k35 : K3 35 = (100, 6888) := a2 35 (by omega)
    have r34 : R3 34 0 = some 35 := a3 34 (by omega) 0
    have key : ∀ (d i : Nat) (J4 : wJn), i + d = 24 → (∀ a, a ≠ 35 → J4 a = J3 a) → (∀ k, J4 35 k = if k = 202 then 4 else if k = 203 then 100 else if 204 ≤ k ∧ k < 204 + i then 8 else 0) → wp Γ c1 s1 (QQ Γ post) 129 [some (.ref 34), some (.int (iI i))] [] 48 K3 (zw J4) L3 R3 := by
      intro d
      induction d with
      | zero =>
        intro i J4 hi b1 b2
        refine w_iload_n (pc2 := 130) C dX11_init_129 rfl rfl ?_
        refine w_bipush (pc2 := 132) (v := iI 24) C dX11_init_130 (by decide) rfl ?_
        -- at 132: .if_icmp .ge 21
        refine z_icmp_ge (pc2 := 135) (tgt := 153) C dX11_init_132 (by decide) rfl (by omega) (by omega) (fun g1 => ?_) (fun g1 => ?_)
        · skip
          refine w_aload_n (pc2 := 154) C dX11_init_153 rfl rfl ?_
          refine w_getR (pc2 := 157) C dX11_init_154 fl_X11_7 (by first | exact hy.k _ | assumption | rfl | ((try simp only [kM, kTo, kSc, nK]); (repeat rw [up1_n _ _ _ (by omega)]); first | assumption | exact up1_s _ _ _)) (by first | exact hy.r _ _ | assumption | rfl | (simp [rM, rTo, rSc, nR, up1, up2]; done)) rfl ?_
          refine w_sipush (pc2 := 160) (v := iI 228) C dX11_init_157 (by decide) rfl ?_
          refine w_sipush (pc2 := 163) (v := iI 3142) C dX11_init_160 (by decide) rfl ?_
          -- at 163: .iastore
          refine z_iast (pc2 := 164) (j := 228) C dX11_init_163 (by first | exact hy.k _ | assumption | rfl | ((try simp only [kM, kTo, kSc, nK]); (repeat rw [up1_n _ _ _ (by omega)]); first | assumption | exact up1_s _ _ _)) (by omega) (by omega) (by decide) rfl ?_
          refine w_aload_n (pc2 := 165) C dX11_init_164 rfl rfl ?_
          refine w_getR (pc2 := 168) C dX11_init_165 fl_X11_7 (by first | exact hy.k _ | assumption | rfl | ((try simp only [kM, kTo, kSc, nK]); (repeat rw [up1_n _ _ _ (by omega)]); first | assumption | exact up1_s _ _ _)) (by first | exact hy.r _ _ | assumption | rfl | (simp [rM, rTo, rSc, nR, up1, up2]; done)) rfl ?_
          refine w_sipush (pc2 := 171) (v := iI 229) C dX11_init_168 (by decide) rfl ?_
          refine w_bipush (pc2 := 173) (v := iI 64) C dX11_init_171 (by decide) rfl ?_
          -- at 173: .iastore
          refine z_iast (pc2 := 174) (j := 229) C dX11_init_173 (by first | exact hy.k _ | assumption | rfl | ((try simp only [kM, kTo, kSc, nK]); (repeat rw [up1_n _ _ _ (by omega)]); first | assumption | exact up1_s _ _ _)) (by omega) (by omega) (by decide) rfl ?_
          refine w_aload_n (pc2 := 175) C dX11_init_174 rfl rfl ?_
          refine w_getR (pc2 := 178) C dX11_init_175 fl_X11_7 (by first | exact hy.k _ | assumption | rfl | ((try simp only [kM, kTo, kSc, nK]); (repeat rw [up1_n _ _ _ (by omega)]); first | assumption | exact up1_s _ _ _)) (by first | exact hy.r _ _ | assumption | rfl | (simp [rM, rTo, rSc, nR, up1, up2]; done)) rfl ?_
          refine w_sipush (pc2 := 181) (v := iI 230) C dX11_init_178 (by decide) rfl ?_
          refine w_iconst (pc2 := 182) (v := iI (-1)) C dX11_init_181 (by decide) rfl ?_
          -- at 182: .iastore
          refine z_iast (pc2 := 183) (j := 230) C dX11_init_182 (by first | exact hy.k _ | assumption | rfl | ((try simp only [kM, kTo, kSc, nK]); (repeat rw [up1_n _ _ _ (by omega)]); first | assumption | exact up1_s _ _ _)) (by omega) (by omega) (by decide) rfl ?_
          refine w_aload_n (pc2 := 184) C dX11_init_183 rfl rfl ?_
          refine w_getR (pc2 := 187) C dX11_init_184 fl_X11_7 (by first | exact hy.k _ | assumption | rfl | ((try simp only [kM, kTo, kSc, nK]); (repeat rw [up1_n _ _ _ (by omega)]); first | assumption | exact up1_s _ _ _)) (by first | exact hy.r _ _ | assumption | rfl | (simp [rM, rTo, rSc, nR, up1, up2]; done)) rfl ?_
          refine w_sipush (pc2 := 190) (v := iI 232) C dX11_init_187 (by decide) rfl ?_
          refine w_iconst (pc2 := 191) (v := iI (-1)) C dX11_init_190 (by decide) rfl ?_
          -- at 191: .iastore
          refine z_iast (pc2 := 192) (j := 232) C dX11_init_191 (by first | exact hy.k _ | assumption | rfl | ((try simp only [kM, kTo, kSc, nK]); (repeat rw [up1_n _ _ _ (by omega)]); first | assumption | exact up1_s _ _ _)) (by omega) (by omega) (by decide) rfl ?_
          have e35 : ∀ k, up2 (up2 (up2 (up2 J4 35 228 3142) 35 229 64) 35 230 (-1)) 35 232 (-1) 35 k = d0 k := fun k => by
            rw [up2_i, up2_i, up2_i, up2_i, b2, d0]
            (repeat' split) <;> first | rfl | omega
          have eo : ∀ a, a ≠ 35 → up2 (up2 (up2 (up2 J4 35 228 3142) 35 229 64) 35 230 (-1)) 35 232 (-1) a = J3 a := fun a ha => by
            rw [up2_row ha, up2_row ha, up2_row ha, up2_row ha]; exact b1 a ha
          exact w_ret C dX11_init_192 hc1 hs1 (by
            rw [← hpost]
            refine ⟨_, _, _, _, ⟨rfl, rfl, rfl, rfl, rfl, rfl⟩, fun i hi => ?_, a2, a3, e35, by rw [eo 34 (by decide)]; exact a5, fun k => by rw [eo 37 (by decide)]; exact a6 k, a7⟩
            rw [eo i (by omega)]
            exact a1 i hi)
        · exact absurd hi (by omega)
      | succ d ih =>
        intro i J4 hi b1 b2
        refine w_iload_n (pc2 := 130) C dX11_init_129 rfl rfl ?_
        refine w_bipush (pc2 := 132) (v := iI 24) C dX11_init_130 (by decide) rfl ?_
        -- at 132: .if_icmp .ge 21
        refine z_icmp_ge (pc2 := 135) (tgt := 153) C dX11_init_132 (by decide) rfl (by omega) (by omega) (fun g1 => ?_) (fun g1 => ?_)
        · exact absurd hi (by omega)
        · skip
          refine w_aload_n (pc2 := 136) C dX11_init_135 rfl rfl ?_
          refine w_getR (pc2 := 139) C dX11_init_136 fl_X11_7 (by first | exact hy.k _ | assumption | rfl | ((try simp only [kM, kTo, kSc, nK]); (repeat rw [up1_n _ _ _ (by omega)]); first | assumption | exact up1_s _ _ _)) (by first | exact hy.r _ _ | assumption | rfl | (simp [rM, rTo, rSc, nR, up1, up2]; done)) rfl ?_
          refine w_sipush (pc2 := 142) (v := iI 204) C dX11_init_139 (by decide) rfl ?_
          refine w_iload_n (pc2 := 143) C dX11_init_142 rfl rfl ?_
          refine z_iadd (pc2 := 144) C dX11_init_143 rfl ?_
          refine w_bipush (pc2 := 146) (v := iI 8) C dX11_init_144 (by decide) rfl ?_
          -- at 146: .iastore
          refine z_iast (pc2 := 147) (j := 204 + i) C dX11_init_146 (by first | exact hy.k _ | assumption | rfl | ((try simp only [kM, kTo, kSc, nK]); (repeat rw [up1_n _ _ _ (by omega)]); first | assumption | exact up1_s _ _ _)) (by omega) (by omega) (by decide) rfl ?_
          refine w_iinc (pc2 := 150) C dX11_init_147 rfl (iI_add _ _) rfl (by decide) rfl rfl ?_
          try dsimp only [List.set]
          refine w_goto (tgt := 129) C dX11_init_150 (by decide) ?_
          -- at 129: .iload_n 1
          refine ih (i + 1) _ (by omega) (fun a ha => by rw [up2_row ha]; exact b1 a ha) (fun k => ?_)
          rw [up2_i, b2]
          (repeat' split) <;> first | rfl | omega
    refine w_aload_n (pc2 := 109) C dX11_init_108 rfl rfl ?_
    refine w_getR (pc2 := 112) C dX11_init_109 fl_X11_7 (by first | exact hy.k _ | assumption | rfl | ((try simp only [kM, kTo, kSc, nK]); (repeat rw [up1_n _ _ _ (by omega)]); first | assumption | exact up1_s _ _ _)) (by first | exact hy.r _ _ | assumption | rfl | (simp [rM, rTo, rSc, nR, up1, up2]; done)) rfl ?_
    refine w_sipush (pc2 := 115) (v := iI 202) C dX11_init_112 (by decide) rfl ?_
    refine w_iconst (pc2 := 116) (v := iI 4) C dX11_init_115 (by decide) rfl ?_
    -- at 116: .iastore
    refine z_iast (pc2 := 117) (j := 202) C dX11_init_116 (by first | exact hy.k _ | assumption | rfl | ((try simp only [kM, kTo, kSc, nK]); (repeat rw [up1_n _ _ _ (by omega)]); first | assumption | exact up1_s _ _ _)) (by omega) (by omega) (by decide) rfl ?_
    refine w_aload_n (pc2 := 118) C dX11_init_117 rfl rfl ?_
    refine w_getR (pc2 := 121) C dX11_init_118 fl_X11_7 (by first | exact hy.k _ | assumption | rfl | ((try simp only [kM, kTo, kSc, nK]); (repeat rw [up1_n _ _ _ (by omega)]); first | assumption | exact up1_s _ _ _)) (by first | exact hy.r _ _ | assumption | rfl | (simp [rM, rTo, rSc, nR, up1, up2]; done)) rfl ?_
    refine w_sipush (pc2 := 124) (v := iI 203) C dX11_init_121 (by decide) rfl ?_
    refine w_bipush (pc2 := 126) (v := iI 100) C dX11_init_124 (by decide) rfl ?_
    -- at 126: .iastore
    refine z_iast (pc2 := 127) (j := 203) C dX11_init_126 (by first | exact hy.k _ | assumption | rfl | ((try simp only [kM, kTo, kSc, nK]); (repeat rw [up1_n _ _ _ (by omega)]); first | assumption | exact up1_s _ _ _)) (by omega) (by omega) (by decide) rfl ?_
    refine w_iconst (pc2 := 128) (v := iI 0) C dX11_init_127 (by decide) rfl ?_
    refine w_istore_n (pc2 := 129) C dX11_init_128 rfl (by decide) rfl rfl ?_
    try dsimp only [List.set]
    -- at 129: .iload_n 1
    refine key 24 0 _ (by omega) (fun a ha => by rw [up2_row ha, up2_row ha]) (fun k => ?_)
    rw [up2_i, up2_i, a4]
    (repeat' split) <;> first | rfl | omega
  refine w_aload_n (pc2 := 1) C dX11_init_0 rfl rfl ?_
  refine w_objInit (pc2 := 4) C dX11_init_1 ob_X11_1 jo_i jo_c (by decide) (Nat.le_of_ble_eq_true rfl) rfl ?_
  refine w_aload_n (pc2 := 5) C dX11_init_4 rfl rfl ?_
  refine w_sipush (pc2 := 8) (v := iI 6888) C dX11_init_5 (by decide) rfl ?_
  refine z_newarr (pc2 := 10) (t := 100) (m := 6888) C dX11_init_8 (by simp) ac_int (by rfl) (by decide) (by decide) (by decide) rfl ?_
  refine w_putR (pc2 := 13) C dX11_init_10 fl_X11_7 (by first | exact hy.k _ | assumption | rfl | ((try simp only [kM, kTo, kSc, nK]); (repeat rw [up1_n _ _ _ (by omega)]); first | assumption | exact up1_s _ _ _)) rfl rfl (by rfl) (by rfl) rfl ?_
  refine w_aload_n (pc2 := 14) C dX11_init_13 rfl rfl ?_
  refine w_bipush (pc2 := 16) (v := iI 72) C dX11_init_14 (by decide) rfl ?_
  refine z_newarr (pc2 := 18) (t := 103) (m := 72) C dX11_init_16 (by simp) ac_long (by rfl) (by decide) (by decide) (by decide) rfl ?_
  refine w_putR (pc2 := 21) C dX11_init_18 fl_X11_13 (by first | exact hy.k _ | assumption | rfl | ((try simp only [kM, kTo, kSc, nK]); (repeat rw [up1_n _ _ _ (by omega)]); first | assumption | exact up1_s _ _ _)) rfl rfl (by rfl) (by rfl) rfl ?_
  refine w_aload_n (pc2 := 22) C dX11_init_21 rfl rfl ?_
  refine w_iconst (pc2 := 23) (v := iI 2) C dX11_init_22 (by decide) rfl ?_
  refine z_newarr (pc2 := 25) (t := 102) (m := 2) C dX11_init_23 (by simp) ac_boolean (by rfl) (by decide) (by decide) (by decide) rfl ?_
  refine w_putR (pc2 := 28) C dX11_init_25 fl_X11_17 (by first | exact hy.k _ | assumption | rfl | ((try simp only [kM, kTo, kSc, nK]); (repeat rw [up1_n _ _ _ (by omega)]); first | assumption | exact up1_s _ _ _)) rfl rfl (by rfl) (by rfl) rfl ?_
  refine w_aload_n (pc2 := 29) C dX11_init_28 rfl rfl ?_
  refine w_sipush (pc2 := 32) (v := iI 1000) C dX11_init_29 (by decide) rfl ?_
  refine z_newarr (pc2 := 34) (t := 100) (m := 1000) C dX11_init_32 (by simp) ac_int (by rfl) (by decide) (by decide) (by decide) rfl ?_
  refine w_putR (pc2 := 37) C dX11_init_34 fl_X11_21 (by first | exact hy.k _ | assumption | rfl | ((try simp only [kM, kTo, kSc, nK]); (repeat rw [up1_n _ _ _ (by omega)]); first | assumption | exact up1_s _ _ _)) rfl rfl (by rfl) (by rfl) rfl ?_
  refine w_aload_n (pc2 := 38) C dX11_init_37 rfl rfl ?_
  refine w_sipush (pc2 := 41) (v := iI 200) C dX11_init_38 (by decide) rfl ?_
  refine z_newarr (pc2 := 43) (t := 100) (m := 200) C dX11_init_41 (by simp) ac_int (by rfl) (by decide) (by decide) (by decide) rfl ?_
  refine w_putR (pc2 := 46) C dX11_init_43 fl_X11_24 (by first | exact hy.k _ | assumption | rfl | ((try simp only [kM, kTo, kSc, nK]); (repeat rw [up1_n _ _ _ (by omega)]); first | assumption | exact up1_s _ _ _)) rfl rfl (by rfl) (by rfl) rfl ?_
  refine w_aload_n (pc2 := 47) C dX11_init_46 rfl rfl ?_
  refine w_sipush (pc2 := 50) (v := iI 200) C dX11_init_47 (by decide) rfl ?_
  refine z_newarr (pc2 := 52) (t := 100) (m := 200) C dX11_init_50 (by simp) ac_int (by rfl) (by decide) (by decide) (by decide) rfl ?_
  refine w_putR (pc2 := 55) C dX11_init_52 fl_X11_27 (by first | exact hy.k _ | assumption | rfl | ((try simp only [kM, kTo, kSc, nK]); (repeat rw [up1_n _ _ _ (by omega)]); first | assumption | exact up1_s _ _ _)) rfl rfl (by rfl) (by rfl) rfl ?_
  refine w_aload_n (pc2 := 56) C dX11_init_55 rfl rfl ?_
  refine w_sipush (pc2 := 59) (v := iI 1001) C dX11_init_56 (by decide) rfl ?_
  refine z_newarr (pc2 := 61) (t := 100) (m := 1001) C dX11_init_59 (by simp) ac_int (by rfl) (by decide) (by decide) (by decide) rfl ?_
  refine w_putR (pc2 := 64) C dX11_init_61 fl_X11_30 (by first | exact hy.k _ | assumption | rfl | ((try simp only [kM, kTo, kSc, nK]); (repeat rw [up1_n _ _ _ (by omega)]); first | assumption | exact up1_s _ _ _)) rfl rfl (by rfl) (by rfl) rfl ?_
  refine w_aload_n (pc2 := 65) C dX11_init_64 rfl rfl ?_
  refine w_iconst (pc2 := 66) (v := iI 4) C dX11_init_65 (by decide) rfl ?_
  refine z_newarr (pc2 := 68) (t := 100) (m := 4) C dX11_init_66 (by simp) ac_int (by rfl) (by decide) (by decide) (by decide) rfl ?_
  refine w_putR (pc2 := 71) C dX11_init_68 fl_X11_33 (by first | exact hy.k _ | assumption | rfl | ((try simp only [kM, kTo, kSc, nK]); (repeat rw [up1_n _ _ _ (by omega)]); first | assumption | exact up1_s _ _ _)) rfl rfl (by rfl) (by rfl) rfl ?_
  refine w_aload_n (pc2 := 72) C dX11_init_71 rfl rfl ?_
  refine w_iconst (pc2 := 73) (v := iI 4) C dX11_init_72 (by decide) rfl ?_
  refine z_newarr (pc2 := 75) (t := 100) (m := 4) C dX11_init_73 (by simp) ac_int (by rfl) (by decide) (by decide) (by decide) rfl ?_
  refine w_putR (pc2 := 78) C dX11_init_75 fl_X11_36 (by first | exact hy.k _ | assumption | rfl | ((try simp only [kM, kTo, kSc, nK]); (repeat rw [up1_n _ _ _ (by omega)]); first | assumption | exact up1_s _ _ _)) rfl rfl (by rfl) (by rfl) rfl ?_
  refine w_aload_n (pc2 := 79) C dX11_init_78 rfl rfl ?_
  refine w_iconst (pc2 := 80) (v := iI 4) C dX11_init_79 (by decide) rfl ?_
  refine z_newarr (pc2 := 82) (t := 100) (m := 4) C dX11_init_80 (by simp) ac_int (by rfl) (by decide) (by decide) (by decide) rfl ?_
  refine w_putR (pc2 := 85) C dX11_init_82 fl_X11_39 (by first | exact hy.k _ | assumption | rfl | ((try simp only [kM, kTo, kSc, nK]); (repeat rw [up1_n _ _ _ (by omega)]); first | assumption | exact up1_s _ _ _)) rfl rfl (by rfl) (by rfl) rfl ?_
  refine w_aload_n (pc2 := 86) C dX11_init_85 rfl rfl ?_
  refine w_ldc (pc2 := 88) C dX11_init_86 kc_X11_42 rfl ?_
  refine z_newarr (pc2 := 90) (t := 100) (m := 1030301) C dX11_init_88 (by simp) ac_int (by rfl) (by decide) (by decide) (by decide) rfl ?_
  refine w_putR (pc2 := 93) C dX11_init_90 fl_X11_43 (by first | exact hy.k _ | assumption | rfl | ((try simp only [kM, kTo, kSc, nK]); (repeat rw [up1_n _ _ _ (by omega)]); first | assumption | exact up1_s _ _ _)) rfl rfl (by rfl) (by rfl) rfl ?_
  refine w_aload_n (pc2 := 94) C dX11_init_93 rfl rfl ?_
  refine w_bipush (pc2 := 96) (v := iI 100) C dX11_init_94 (by decide) rfl ?_
  refine z_newarr (pc2 := 98) (t := 100) (m := 100) C dX11_init_96 (by simp) ac_int (by rfl) (by decide) (by decide) (by decide) rfl ?_
  refine w_putR (pc2 := 101) C dX11_init_98 fl_X11_46 (by first | exact hy.k _ | assumption | rfl | ((try simp only [kM, kTo, kSc, nK]); (repeat rw [up1_n _ _ _ (by omega)]); first | assumption | exact up1_s _ _ _)) rfl rfl (by rfl) (by rfl) rfl ?_
  refine w_aload_n (pc2 := 102) C dX11_init_101 rfl rfl ?_
  refine w_iconst (pc2 := 103) (v := iI 2) C dX11_init_102 (by decide) rfl ?_
  refine z_newarr (pc2 := 105) (t := 100) (m := 2) C dX11_init_103 (by simp) ac_int (by rfl) (by decide) (by decide) (by decide) rfl ?_
  refine w_putR (pc2 := 108) C dX11_init_105 fl_X11_49 (by first | exact hy.k _ | assumption | rfl | ((try simp only [kM, kTo, kSc, nK]); (repeat rw [up1_n _ _ _ (by omega)]); first | assumption | exact up1_s _ _ _)) rfl rfl (by rfl) (by rfl) rfl ?_
  -- at 108: .aload_n 0
  refine rest _ _ _ _ _ _ (by decide) (by decide) (fun i hi => ?_) ?_ ?_ (fun k => rfl) ?_ (fun k => rfl) (fun k => rfl)
  · have hne : ∀ j, 34 ≤ j → ¬ i = j := fun j hj => by omega
    refine ⟨?_, ?_, ?_, ?_⟩
    · repeat rw [up1_n _ _ _ (by omega)]
    · repeat rw [up1_n _ _ _ (by omega)]
    · repeat rw [up1_n _ _ _ (by omega)]
    · repeat (first | rw [up1_n _ _ _ (by omega)] | rw [up2_row (by omega)])
  · intro i hi
    match i, hi with
    | 34, _ => exact hk
    | 35, _ => rfl
    | 36, _ => rfl
    | 37, _ => rfl
    | 38, _ => rfl
    | 39, _ => rfl
    | 40, _ => rfl
    | 41, _ => rfl
    | 42, _ => rfl
    | 43, _ => rfl
    | 44, _ => rfl
    | 45, _ => rfl
    | 46, _ => rfl
    | 47, _ => rfl
    | i + 48, h => exact absurd h.2 (by omega)
  · intro i hi k
    match i, hi, k with
    | 34, _, k => match k with
      | 0 => rfl
      | 1 => rfl
      | 2 => rfl
      | 3 => rfl
      | 4 => exact hr _
      | 5 => exact hr _
      | 6 => exact hr _
      | 7 => exact hr _
      | 8 => exact hr _
      | 9 => exact hr _
      | 10 => exact hr _
      | 11 => exact hr _
      | 12 => rfl
      | 13 => rfl
      | 14 => rfl
      | 15 => exact hr _
      | 16 => exact hr _
      | 17 => rfl
      | 18 => rfl
      | 19 => rfl
      | 20 => rfl
      | 21 => rfl
      | 22 => rfl
      | k + 23 => exact hr _
    | 35, _, k => rfl
    | 36, _, k => rfl
    | 37, _, k => rfl
    | 38, _, k => rfl
    | 39, _, k => rfl
    | 40, _, k => rfl
    | 41, _, k => rfl
    | 42, _, k => rfl
    | 43, _, k => rfl
    | 44, _, k => rfl
    | 45, _, k => rfl
    | 46, _, k => rfl
    | 47, _, k => rfl
    | i + 48, h, _ => exact absurd h.2 (by omega)
  · exact hj 4
end INITS
