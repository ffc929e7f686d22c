/-- what an image keeps, alike -/
def MEq (J : wJn) (L : wLn) (b : Nat) (J2 : wJn) (L2 : wLn) (a : Nat) : Prop := (J2 (a + 1) 2 = J (b + 1) 2 ∧ J2 (a + 1) 3 = J (b + 1) 3) ∧ (∀ k, k < 100 → J2 (a + 2) k = J (b + 2) k ∧ J2 (a + 3) k = J (b + 3) k) ∧ J2 (a + 4) 1 = J (b + 4) 1 ∧ (∀ k, k < 24 → J2 (a + 5) k = J (b + 5) k) ∧ (J2 (a + 7) 2 = J (b + 7) 2 ∧ J2 (a + 7) 3 = J (b + 7) 3 ∧ J2 (a + 7) 4 = J (b + 7) 4) ∧ (∀ k, k < 100 → J2 (a + 8) k = J (b + 8) k ∧ J2 (a + 9) k = J (b + 9) k) ∧ (J2 a 4 = J b 4 ∧ J2 a 5 = J b 5 ∧ J2 a 6 = J b 6 ∧ J2 a 7 = J b 7) ∧ (∀ k, k < 24 → L2 (a + 11) k = L (b + 11) k)
theorem cpyJ_o {J : wJn} {i j c a : Nat} (h : a ≠ j) : cpyJ J i j c a = J a := by simp [cpyJ, up1, h]
theorem cpyJ_s {J : wJn} {i j c k : Nat} (h : k < c) : cpyJ J i j c j k = J i k := by simp [cpyJ, up1, h]
theorem cpSc_o {J : wJn} {a b i : Nat} (h : ¬ (a ≤ i ∧ i < a + 3)) : cpSc J a b i = J i := by
  unfold cpSc
  rw [up2_row (by omega), up2_row (by omega), cpyJ_o (by omega), cpyJ_o (by omega)]
theorem cpTo_o {J : wJn} {a b i : Nat} (h : ¬ (a ≤ i ∧ i < a + 3)) : cpTo J a b i = J i := by
  unfold cpTo
  rw [up2_row (by omega), cpyJ_o (by omega)]
theorem cpDr_o {J : wJn} {a b i : Nat} (h : ¬ (a ≤ i ∧ i < a + 3)) : cpDr J a b i = J i := by
  unfold cpDr
  rw [up2_row (by omega), up2_row (by omega), up2_row (by omega), cpyJ_o (by omega), cpyJ_o (by omega)]
theorem cpSc_a {J : wJn} {a b : Nat} (h : b + 3 ≤ a ∨ a + 3 ≤ b) : (cpSc J a b a 2 = J b 2 ∧ cpSc J a b a 3 = J b 3) ∧ ∀ k, k < 100 → cpSc J a b (a + 1) k = J (b + 1) k ∧ cpSc J a b (a + 2) k = J (b + 2) k := by
  unfold cpSc
  refine ⟨⟨?_, ?_⟩, fun k hk => ⟨?_, ?_⟩⟩
  · rw [up2_n _ _ _ _ (by omega), up2_s, cpyJ_o (by omega), cpyJ_o (by omega)]
  · rw [up2_s, up2_row (by omega), cpyJ_o (by omega), cpyJ_o (by omega)]
  · rw [up2_row (by omega), up2_row (by omega), cpyJ_o (by omega), cpyJ_s hk]
  · rw [up2_row (by omega), up2_row (by omega), cpyJ_s hk, cpyJ_o (by omega)]
theorem cpTo_a {J : wJn} {a b : Nat} (h : b + 3 ≤ a ∨ a + 3 ≤ b) : cpTo J a b a 1 = J b 1 ∧ ∀ k, k < 24 → cpTo J a b (a + 1) k = J (b + 1) k := by
  unfold cpTo
  refine ⟨?_, fun k hk => ?_⟩
  · rw [up2_s, cpyJ_o (by omega)]
  · rw [up2_row (by omega), cpyJ_s hk]
theorem cpDr_a {J : wJn} {a b : Nat} (h : b + 3 ≤ a ∨ a + 3 ≤ b) : (cpDr J a b a 2 = J b 2 ∧ cpDr J a b a 3 = J b 3 ∧ cpDr J a b a 4 = J b 4) ∧ ∀ k, k < 100 → cpDr J a b (a + 1) k = J (b + 1) k ∧ cpDr J a b (a + 2) k = J (b + 2) k := by
  unfold cpDr
  refine ⟨⟨?_, ?_, ?_⟩, fun k hk => ⟨?_, ?_⟩⟩
  · rw [up2_n _ _ _ _ (by omega), up2_n _ _ _ _ (by omega), up2_s, cpyJ_o (by omega), cpyJ_o (by omega)]
  · rw [up2_n _ _ _ _ (by omega), up2_s, up2_row (by omega), cpyJ_o (by omega), cpyJ_o (by omega)]
  · rw [up2_s, up2_row (by omega), up2_row (by omega), cpyJ_o (by omega), cpyJ_o (by omega)]
  · rw [up2_row (by omega), up2_row (by omega), up2_row (by omega), cpyJ_o (by omega), cpyJ_s hk]
  · rw [up2_row (by omega), up2_row (by omega), up2_row (by omega), cpyJ_s hk, cpyJ_o (by omega)]
theorem cpMa_o {J : wJn} {a b i : Nat} (h : ¬ (a ≤ i ∧ i < a + 12)) : cpMa J a b i = J i := by
  unfold cpMa
  rw [up2_row (by omega), up2_row (by omega), up2_row (by omega), up2_row (by omega), cpDr_o (by omega), cpTo_o (by omega), cpSc_o (by omega)]
theorem cpMa_a {J : wJn} {L : wLn} {a b : Nat} (h : b + 12 ≤ a ∨ a + 12 ≤ b) : MEq J L b (cpMa J a b) (cpyL L (b + 11) (a + 11) 24) a := by
  have s1 := cpSc_a (J := J) (a := a + 1) (b := b + 1) (by omega)
  have s2 := cpTo_a (J := cpSc J (a + 1) (b + 1)) (a := a + 4) (b := b + 4) (by omega)
  have s3 := cpDr_a (J := cpTo (cpSc J (a + 1) (b + 1)) (a + 4) (b + 4)) (a := a + 7) (b := b + 7) (by omega)
  rw [cpSc_o (show ¬ (a + 1 ≤ b + 4 ∧ b + 4 < a + 1 + 3) by omega)] at s2
  rw [cpTo_o (show ¬ (a + 4 ≤ b + 7 ∧ b + 7 < a + 4 + 3) by omega), cpSc_o (show ¬ (a + 1 ≤ b + 7 ∧ b + 7 < a + 1 + 3) by omega)] at s3
  have t2 : ∀ k, k < 24 → cpTo (cpSc J (a + 1) (b + 1)) (a + 4) (b + 4) (a + 4 + 1) k = J (b + 4 + 1) k := fun k hk => by
    rw [s2.2 k hk, cpSc_o (show ¬ (a + 1 ≤ b + 4 + 1 ∧ b + 4 + 1 < a + 1 + 3) by omega)]
  have t3 : ∀ k, k < 100 → cpDr (cpTo (cpSc J (a + 1) (b + 1)) (a + 4) (b + 4)) (a + 7) (b + 7) (a + 7 + 1) k = J (b + 7 + 1) k ∧ cpDr (cpTo (cpSc J (a + 1) (b + 1)) (a + 4) (b + 4)) (a + 7) (b + 7) (a + 7 + 2) k = J (b + 7 + 2) k := fun k hk => by
    rw [(s3.2 k hk).1, (s3.2 k hk).2, cpTo_o (show ¬ (a + 4 ≤ b + 7 + 1 ∧ b + 7 + 1 < a + 4 + 3) by omega), cpSc_o (show ¬ (a + 1 ≤ b + 7 + 1 ∧ b + 7 + 1 < a + 1 + 3) by omega), cpTo_o (show ¬ (a + 4 ≤ b + 7 + 2 ∧ b + 7 + 2 < a + 4 + 3) by omega), cpSc_o (show ¬ (a + 1 ≤ b + 7 + 2 ∧ b + 7 + 2 < a + 1 + 3) by omega)]
    exact ⟨rfl, rfl⟩
  have g : ∀ i, i ≠ a → cpMa J a b i = cpDr (cpTo (cpSc J (a + 1) (b + 1)) (a + 4) (b + 4)) (a + 7) (b + 7) i := fun i hi => by
    unfold cpMa
    rw [up2_row hi, up2_row hi, up2_row hi, up2_row hi]
  have gb : cpDr (cpTo (cpSc J (a + 1) (b + 1)) (a + 4) (b + 4)) (a + 7) (b + 7) b = J b := by
    rw [cpDr_o (by omega), cpTo_o (by omega), cpSc_o (by omega)]
  refine ⟨?_, fun k hk => ?_, ?_, fun k hk => ?_, ?_, fun k hk => ?_, ?_, fun k hk => ?_⟩
  · rw [g _ (by omega), cpDr_o (by omega), cpTo_o (by omega)]; exact s1.1
  · rw [g _ (by omega), g _ (by omega), cpDr_o (by omega), cpTo_o (by omega), cpDr_o (by omega), cpTo_o (by omega)]; exact s1.2 k hk
  · rw [g _ (by omega), cpDr_o (by omega)]; exact s2.1
  · rw [g _ (by omega), cpDr_o (by omega)]; exact t2 k hk
  · rw [g _ (by omega)]; exact s3.1
  · rw [g _ (by omega), g _ (by omega)]; exact t3 k hk
  · unfold cpMa
    refine ⟨?_, ?_, ?_, ?_⟩
    · rw [up2_n _ _ _ _ (by omega), up2_n _ _ _ _ (by omega), up2_n _ _ _ _ (by omega), up2_s, gb]
    · rw [up2_n _ _ _ _ (by omega), up2_n _ _ _ _ (by omega), up2_s, up2_row (by omega), gb]
    · rw [up2_n _ _ _ _ (by omega), up2_s, up2_row (by omega), up2_row (by omega), gb]
    · rw [up2_s, up2_row (by omega), up2_row (by omega), up2_row (by omega), gb]
  · simp [cpyL, up1, hk]
theorem cpyL_o {L : wLn} {i j c a : Nat} (h : a ≠ j) : cpyL L i j c a = L a := by simp [cpyL, up1, h]
theorem kM_o {K : wKd} {n i : Nat} (h : ¬ (n ≤ i ∧ i < n + 11)) : kM K n i = K i := by
  simp only [kM, kSc, kTo, nK]
  repeat rw [up1_n _ _ _ (by omega)]
theorem jM_o {J : wJn} {n b i : Nat} (h : ¬ (n ≤ i ∧ i < n + 11)) (hb : i ≠ b) : jM J n b i = J i := by
  simp only [jM, jDr, jTo, jSc, nJ]
  repeat (first | rw [up1_n _ _ _ (by omega)] | rw [up2_row (by omega)])
theorem lM_o {L : wLn} {n i : Nat} (h : ¬ (n ≤ i ∧ i < n + 11)) : lM L n i = L i := by
  simp only [lM, lSc, nL1]
  repeat rw [up1_n _ _ _ (by omega)]
theorem rM_o {R : wRf} {n b i : Nat} (h : ¬ (n ≤ i ∧ i < n + 11)) (hb : i ≠ b) : rM R n b i = R i := by
  simp only [rM, rSc, rTo, nR]
  repeat (first | rw [up1_n _ _ _ (by omega)] | rw [up2_row (by omega)])
theorem lyM_new {K : wKd} {R : wRf} {b : Nat} (hk : K b = (2, 0)) : LyM (kM K (b + 1)) (rM R (b + 1) b) b := by
  refine ⟨by rw [kM_o (by omega)]; exact hk, ?_, ?_, ?_, ?_, ⟨?_, ?_, ?_, ?_, ?_⟩, ⟨?_, ?_, ?_, ?_, ?_⟩, ⟨?_, ?_, ?_, ?_, ?_⟩, ⟨?_, ?_, ?_⟩⟩
  all_goals (simp only [kM, kSc, kTo, nK, rM, rSc, rTo, nR]; repeat (first | rw [up1_n _ _ _ (by omega)] | rw [up2_n _ _ _ _ (by omega)] | rw [up2_row (by omega)]))
  all_goals (first | rw [up1_s] | rw [up2_s] | skip)
section NULLS
variable {Γ : Gm} {own : String} {cc : ByteArray} {nL : Nat} {ret : Option FieldType} {rm : Room} {nm : String} {cells slots pc pc2 : Nat} {Q : State → Prop} {lo : List (Option Value)} {st : List Value} {n : Nat} {K : wKd} {I : wIn} {L : wLn} {R : wRf}
theorem w_astore_n0 (C : Cx Γ own cc nL ret rm nm) {i : Fin 4} {lo2 : List (Option Value)} (hd : decode cc pc = .ok (.astore_n i, 1)) (hn : noL lo = true) (hi : (i : Nat) < nL) (hlo : lo.set (i : Nat) (some .null) = lo2) (hp : pc + 1 = pc2) (k : wp Γ cells slots Q pc2 lo2 st n K I L R) : wp Γ cells slots Q pc lo (.null :: st) n K I L R := by
  subst hp; subst hlo; intro H locs ls hW hS hl
  exact lv_astore_nN C.1 C.2.1 hd rfl hl (by rw [C.2.2.2.1]; exact hi) rfl (fun ls2 h2 => k H locs ls2 hW hS (lh.sto (ls := ls) (v := .null) hn h2))
theorem w_aload_n0 (C : Cx Γ own cc nL ret rm nm) {i : Fin 4} (hd : decode cc pc = .ok (.aload_n i, 1)) (hv : lo[(i : Nat)]? = some (some .null)) (hp : pc + 1 = pc2) (k : wp Γ cells slots Q pc2 lo (.null :: st) n K I L R) : wp Γ cells slots Q pc lo (st) n K I L R := by
  subst hp; intro H locs ls hW hS hl
  exact lv_aload_nN C.1 C.2.1 hd rfl (hl.get hv) (k H locs ls hW hS hl)
end NULLS
section IMAGE
variable {n : Nat} {K : wKd} {J : wJn} {L : wLn} {R : wRf}
/-- the images' places -/
def Img (n : Nat) (K : wKd) (R : wRf) : Prop := ∀ j b, j < 2 → R 23 j = some b → LyM K R b ∧ 48 ≤ b ∧ b + 12 ≤ n
def ImP (j n : Nat) (K : wKd) (J : wJn) (L : wLn) (R : wRf) : Post := fun r2 n2 K2 I2 L2 R2 => ∃ (J2 : wJn) (b : Nat), r2 = some (.int (iI 1)) ∧ I2 = zw J2 ∧ ((R 23 j = some b ∧ n2 = n) ∨ (R 23 j = none ∧ b = n ∧ n2 = n + 12)) ∧ (∀ i, i < n → K2 i = K i) ∧ (∀ i, i < n → i ≠ 23 → R2 i = R i) ∧ R2 23 j = some b ∧ (∀ k, k ≠ j → R2 23 k = R 23 k) ∧ LyM K2 R2 b ∧ MEq J L 11 J2 L2 b ∧ (∀ i, i < n → ¬ (b ≤ i ∧ i < b + 12) → J2 i = J i ∧ L2 i = L i)
theorem s_X10_image (hy : Ly K R) (hn : 48 ≤ n) (hI : Img n K R) {j : Nat} (hj : j < 2) : S_X10_image [.ref 0, .int (iI j)] n K (zw J) L R (ImP j n K J L R) := by
  refine Sp_intro [some (.ref 0), some (.int (iI j)), none] rfl rfl (Nat.le_of_ble_eq_true rfl) rfl ?_
  intro Γ C
  replace C : C_X10_image Γ := C
  refine w_iload_n (pc2 := 1) C dX10_image_0 rfl rfl ?_
  -- at 1: .ifCond .lt 8
  refine z_if_lt (pc2 := 4) (tgt := 9) C dX10_image_1 (by decide) rfl (by omega) (fun g1 => ?_) (fun g1 => ?_)
  · exact absurd g1 (by omega)
  · skip
    refine w_iload_n (pc2 := 5) C dX10_image_4 rfl rfl ?_
    refine w_iconst (pc2 := 6) (v := iI 2) C dX10_image_5 (by decide) rfl ?_
    -- at 6: .if_icmp .lt 5
    refine z_icmp_lt (pc2 := 9) (tgt := 11) C dX10_image_6 (by decide) rfl (by omega) (by omega) (fun g2 => ?_) (fun g2 => ?_)
    · skip
      refine w_aload_n (pc2 := 12) C dX10_image_11 rfl rfl ?_
      refine w_getR (pc2 := 15) C dX10_image_12 fl_X10_32 (by first | exact hy.k _ | assumption | rfl | ((try simp only [kM, kTo, kSc, nK]); (repeat rw [up1_n _ _ _ (by omega)]); first | assumption | exact up1_s _ _ _)) (by first | exact hy.r _ _ | assumption | rfl | (simp [rM, rTo, rSc, nR, up1, up2]; done)) rfl ?_
      refine w_iload_n (pc2 := 16) C dX10_image_15 rfl rfl ?_
      -- at 16: .aaload
      refine z_aald (pc2 := 17) (j := j) C dX10_image_16 (by first | exact hy.k _ | assumption | rfl | ((try simp only [kM, kTo, kSc, nK]); (repeat rw [up1_n _ _ _ (by omega)]); first | assumption | exact up1_s _ _ _)) (by simp) (by omega) (by omega) (by decide) rfl ?_
      rcases hR : R 23 j with _ | b
      · show wp Γ 0 0 _ _ _ [.null] _ _ _ _ _
        refine w_astore_n0 (pc2 := 18) C dX10_image_17 rfl (by decide) rfl rfl ?_
        dsimp only [List.set]
        refine w_aload_n0 (pc2 := 19) C dX10_image_18 rfl rfl ?_
        refine w_ifnonnullN (pc2 := 22) C dX10_image_19 rfl ?_
        refine z_new (pc2 := 25) C dX10_image_22 nw_X10_25 (by decide) (by decide) rfl ?_
        refine w_dup (pc2 := 26) C dX10_image_25 rfl rfl ?_
        -- at 26: .invokespecial 27
        refine w_callIN (pc2 := 29) C dX10_image_26 mn_X10_27 mi_X2_init (s_X2_init (b := n) (up1_s _ _ _) (by omega)) rfl rfl (Nat.le_of_ble_eq_true rfl) ⟨by decide, by decide⟩ ⟨by decide, by decide⟩ rfl ?_
        rintro r2 n2 K2 I2 L2 R2 hD
        obtain ⟨d1, d2, d3, d4, d5, d6⟩ := hD
        replace d2 := d2.symm
        replace d3 := d3.symm
        replace d5 := d5.symm
        replace d6 := d6.symm
        subst d1
        subst d2
        subst d3
        subst d4
        subst d5
        subst d6
        have hLM := lyM_new (K := up1 K n (2, 0)) (R := up1 R n (fun _ => none)) (b := n) (up1_s _ _ _)
        have kk : ∀ i, i < n → kM (up1 K n (2, 0)) (n + 1) i = K i := fun i hi => by rw [kM_o (by omega), up1_n _ _ _ (by omega)]
        have rr : ∀ i, i < n → rM (up1 R n (fun _ => none)) (n + 1) n i = R i := fun i hi => by rw [rM_o (by omega) (by omega), up1_n _ _ _ (by omega)]
        have jj : ∀ i, i < n → jM (up1 J n (fun _ => 0)) (n + 1) n i = J i := fun i hi => by rw [jM_o (by omega) (by omega), up1_n _ _ _ (by omega)]
        have ll : ∀ i, i < n → lM (up1 L n (fun _ => 0)) (n + 1) i = L i := fun i hi => by rw [lM_o (by omega), up1_n _ _ _ (by omega)]
        generalize hK2 : kM (up1 K n (2, 0)) (n + 1) = K2 at *
        generalize hR2 : rM (up1 R n (fun _ => none)) (n + 1) n = R2 at *
        generalize hJ2 : jM (up1 J n (fun _ => 0)) (n + 1) n = J2 at *
        generalize hL2 : lM (up1 L n (fun _ => 0)) (n + 1) = L2 at *
        have hy2 : Ly K2 R2 := ⟨fun i hi => by rw [kk i (by omega)]; exact hy.1 i hi, fun i hi k => by rw [rr i (by omega)]; exact hy.2 i hi k⟩
        have hkn : K2 n = (2, 0) := hLM.1
        clear hy
        rename Ly K2 R2 => hy
        refine w_astore_n (pc2 := 30) C dX10_image_29 rfl (by decide) rfl rfl ?_
        try dsimp only [List.set]
        refine w_aload_n (pc2 := 31) C dX10_image_30 rfl rfl ?_
        refine w_getR (pc2 := 34) C dX10_image_31 fl_X10_32 (by first | exact hy.k _ | assumption | rfl | ((try simp only [kM, kTo, kSc, nK]); (repeat rw [up1_n _ _ _ (by omega)]); first | assumption | exact up1_s _ _ _)) (by first | exact hy.r _ _ | assumption | rfl | (simp [rM, rTo, rSc, nR, up1, up2]; done)) rfl ?_
        refine w_iload_n (pc2 := 35) C dX10_image_34 rfl rfl ?_
        refine w_aload_n (pc2 := 36) C dX10_image_35 rfl rfl ?_
        -- at 36: .aastore
        refine z_aast (pc2 := 37) (j := j) C dX10_image_36 (by first | exact hy.k _ | assumption | rfl | ((try simp only [kM, kTo, kSc, nK]); (repeat rw [up1_n _ _ _ (by omega)]); first | assumption | exact up1_s _ _ _)) (by first | exact hy.k _ | assumption | rfl | ((try simp only [kM, kTo, kSc, nK]); (repeat rw [up1_n _ _ _ (by omega)]); first | assumption | exact up1_s _ _ _)) (by omega) (by omega) (by decide) rfl ?_
        have hy3 : Ly K2 (up2 R2 23 j (some n)) := ⟨hy.1, fun i hi k => by rw [up2_row hi.2]; exact hy.2 i hi k⟩
        have hL3 : LyM K2 (up2 R2 23 j (some n)) n := by
          unfold LyM LySc LyTo LyDr LyCl at hLM ⊢
          rw [up2_row (show n ≠ 23 by omega), up2_row (show n + 1 ≠ 23 by omega), up2_row (show n + 4 ≠ 23 by omega), up2_row (show n + 7 ≠ 23 by omega), up2_row (show n + 10 ≠ 23 by omega)]
          exact hLM
        generalize hR3 : up2 R2 23 j (some n) = R3 at *
        clear hy
        rename Ly K2 R3 => hy
        refine w_aload_n (pc2 := 38) C dX10_image_37 rfl rfl ?_
        refine w_aload_n (pc2 := 39) C dX10_image_38 rfl rfl ?_
        refine w_getR (pc2 := 42) C dX10_image_39 fl_X10_28 (by first | exact hy.k _ | assumption | rfl | ((try simp only [kM, kTo, kSc, nK]); (repeat rw [up1_n _ _ _ (by omega)]); first | assumption | exact up1_s _ _ _)) (by first | exact hy.r _ _ | assumption | rfl | (simp [rM, rTo, rSc, nR, up1, up2]; done)) rfl ?_
        -- at 42: .invokevirtual 224
        refine w_cVv (pc2 := 45)  C dX10_image_42 mb_X10_224 mv_X2_copyFrom (s_X2_copyFrom (a := n) (b := 11) hL3 hy.m) (by first | exact hy.k _ | assumption | rfl | ((try simp only [kM, kTo, kSc, nK]); (repeat rw [up1_n _ _ _ (by omega)]); first | assumption | exact up1_s _ _ _)) rfl (by decide) rfl rfl (Nat.le_of_ble_eq_true rfl) ⟨by decide, by decide⟩ ⟨rfl, rfl⟩ ⟨by decide, by decide⟩ rfl ?_
        refine w_iconst (pc2 := 46) (v := iI 1) C dX10_image_45 (by decide) rfl ?_
        -- at 46: .ireturn
        exact w_zret C dX10_image_46 (Or.inr rfl) (by decide) (by decide) (by
          refine ⟨_, n, rfl, rfl, Or.inr ⟨hR, rfl, rfl⟩, kk, fun i hi h23 => by rw [← hR3, up2_row h23]; exact rr i hi, by rw [← hR3, up2_s], fun k hk => by rw [← hR3, up2_n _ _ _ _ (by omega)]; rw [rr 23 (by omega)], hL3, ?_, fun i hi hb => by rw [cpMa_o hb, cpyL_o (by omega)]; exact ⟨jj i hi, ll i hi⟩⟩
          have h1 := cpMa_a (J := J2) (L := L2) (a := n) (b := 11) (by omega)
          unfold MEq at h1 ⊢
          rw [jj 11 (by omega), jj (11 + 1) (by omega), jj (11 + 2) (by omega), jj (11 + 3) (by omega), jj (11 + 4) (by omega), jj (11 + 5) (by omega), jj (11 + 7) (by omega), jj (11 + 8) (by omega), jj (11 + 9) (by omega), ll (11 + 11) (by omega)] at h1
          exact h1)
      · obtain ⟨hM, hb1, hb2⟩ := hI j b hj hR
        have hkb : K b = (2, 0) := hM.1
        show wp Γ 0 0 _ _ _ [.ref b] _ _ _ _ _
        refine w_astore_n (pc2 := 18) C dX10_image_17 rfl (by decide) rfl rfl ?_
        try dsimp only [List.set]
        refine w_aload_n (pc2 := 19) C dX10_image_18 rfl rfl ?_
        -- at 19: .ifnonnull 18
        refine w_ifnonnull (tgt := 37) C dX10_image_19 (by decide) ?_
        refine w_aload_n (pc2 := 38) C dX10_image_37 rfl rfl ?_
        refine w_aload_n (pc2 := 39) C dX10_image_38 rfl rfl ?_
        refine w_getR (pc2 := 42) C dX10_image_39 fl_X10_28 (by first | exact hy.k _ | assumption | rfl | ((try simp only [kM, kTo, kSc, nK]); (repeat rw [up1_n _ _ _ (by omega)]); first | assumption | exact up1_s _ _ _)) (by first | exact hy.r _ _ | assumption | rfl | (simp [rM, rTo, rSc, nR, up1, up2]; done)) rfl ?_
        -- at 42: .invokevirtual 224
        refine w_cVv (pc2 := 45)  C dX10_image_42 mb_X10_224 mv_X2_copyFrom (s_X2_copyFrom (a := b) (b := 11) hM hy.m) (by first | exact hy.k _ | assumption | rfl | ((try simp only [kM, kTo, kSc, nK]); (repeat rw [up1_n _ _ _ (by omega)]); first | assumption | exact up1_s _ _ _)) rfl (by decide) rfl rfl (Nat.le_of_ble_eq_true rfl) ⟨by decide, by decide⟩ ⟨rfl, rfl⟩ ⟨by decide, by decide⟩ rfl ?_
        refine w_iconst (pc2 := 46) (v := iI 1) C dX10_image_45 (by decide) rfl ?_
        -- at 46: .ireturn
        exact w_zret C dX10_image_46 (Or.inr rfl) (by decide) (by decide) (⟨_, b, rfl, rfl, Or.inl ⟨hR, rfl⟩, fun _ _ => rfl, fun _ _ _ => rfl, hR, fun _ _ => rfl, hM, cpMa_a (by omega), fun i hi hb => by rw [cpMa_o hb, cpyL_o (by omega)]; exact ⟨rfl, rfl⟩⟩)
    · exact absurd hj (by omega)
theorem s_X10_image0 {a : Int} (ha : R32 a) (h : ¬ (0 ≤ a ∧ a < 2)) : S_X10_image [.ref 0, .int (iI a)] n K (zw J) L R (Det (some (.int (iI 0))) n K (zw J) L R) := by
  refine Sp_intro [some (.ref 0), some (.int (iI a)), none] rfl rfl (Nat.le_of_ble_eq_true rfl) rfl ?_
  intro Γ C
  replace C : C_X10_image Γ := C
  refine w_iload_n (pc2 := 1) C dX10_image_0 rfl rfl ?_
  -- at 1: .ifCond .lt 8
  refine z_if_lt (pc2 := 4) (tgt := 9) C dX10_image_1 (by decide) rfl (by omega) (fun g1 => ?_) (fun g1 => ?_)
  · skip
    refine w_iconst (pc2 := 10) (v := iI 0) C dX10_image_9 (by decide) rfl ?_
    -- at 10: .ireturn
    exact w_zret C dX10_image_10 (Or.inl rfl) (by decide) (by decide) (⟨rfl, rfl, rfl, rfl, rfl, rfl⟩)
  · skip
    refine w_iload_n (pc2 := 5) C dX10_image_4 rfl rfl ?_
    refine w_iconst (pc2 := 6) (v := iI 2) C dX10_image_5 (by decide) rfl ?_
    -- at 6: .if_icmp .lt 5
    refine z_icmp_lt (pc2 := 9) (tgt := 11) C dX10_image_6 (by decide) rfl (by omega) (by omega) (fun g2 => ?_) (fun g2 => ?_)
    · exact absurd g2 (by omega)
    · skip
      refine w_iconst (pc2 := 10) (v := iI 0) C dX10_image_9 (by decide) rfl ?_
      -- at 10: .ireturn
      exact w_zret C dX10_image_10 (Or.inl rfl) (by decide) (by decide) (⟨rfl, rfl, rfl, rfl, rfl, rfl⟩)
theorem s_X10_back (hy : Ly K R) (hI : Img n K R) {a : Int} (ha : R32 a) : S_X10_back [.ref 0, .int (iI a)] n K (zw J) L R (fun r2 n2 K2 I2 L2 R2 => (((¬ (0 ≤ a ∧ a < 2)) ∨ R 23 a.toNat = none) ∧ Det (some (.int (iI 0))) n K (zw J) L R r2 n2 K2 I2 L2 R2) ∨ (∃ (b : Nat), 0 ≤ a ∧ a < 2 ∧ R 23 a.toNat = some b ∧ Det (some (.int (iI 1))) n K (zw (up2 (cpMa J 11 b) 0 7 0)) (cpyL L (b + 11) 22 24) R r2 n2 K2 I2 L2 R2)) := by
  refine Sp_intro [some (.ref 0), some (.int (iI a)), none] rfl rfl (Nat.le_of_ble_eq_true rfl) rfl ?_
  intro Γ C
  replace C : C_X10_back Γ := C
  refine w_iload_n (pc2 := 1) C dX10_back_0 rfl rfl ?_
  -- at 1: .ifCond .lt 8
  refine z_if_lt (pc2 := 4) (tgt := 9) C dX10_back_1 (by decide) rfl (by omega) (fun g1 => ?_) (fun g1 => ?_)
  · skip
    refine w_iconst (pc2 := 10) (v := iI 0) C dX10_back_9 (by decide) rfl ?_
    -- at 10: .ireturn
    exact w_zret C dX10_back_10 (Or.inl rfl) (by decide) (by decide) (Or.inl ⟨Or.inl (by omega), DetI rfl rfl⟩)
  · skip
    refine w_iload_n (pc2 := 5) C dX10_back_4 rfl rfl ?_
    refine w_iconst (pc2 := 6) (v := iI 2) C dX10_back_5 (by decide) rfl ?_
    -- at 6: .if_icmp .lt 5
    refine z_icmp_lt (pc2 := 9) (tgt := 11) C dX10_back_6 (by decide) rfl (by omega) (by omega) (fun g2 => ?_) (fun g2 => ?_)
    · skip
      refine w_aload_n (pc2 := 12) C dX10_back_11 rfl rfl ?_
      refine w_getR (pc2 := 15) C dX10_back_12 fl_X10_32 (by first | exact hy.k _ | assumption) (by first | exact hy.r _ _ | assumption) rfl ?_
      refine w_iload_n (pc2 := 16) C dX10_back_15 rfl rfl ?_
      -- at 16: .aaload
      refine z_aald (pc2 := 17) (j := a.toNat) C dX10_back_16 (by first | exact hy.k _ | assumption) (by simp) (by omega) (by omega) (by decide) rfl ?_
      rcases hR : R 23 a.toNat with _ | b
      · show wp Γ 0 0 _ _ _ [.null] _ _ _ _ _
        refine w_astore_n0 (pc2 := 18) C dX10_back_17 rfl (by decide) rfl rfl ?_
        dsimp only [List.set]
        refine w_aload_n0 (pc2 := 19) C dX10_back_18 rfl rfl ?_
        refine w_ifnonnullN (pc2 := 22) C dX10_back_19 rfl ?_
        refine w_iconst (pc2 := 23) (v := iI 0) C dX10_back_22 (by decide) rfl ?_
        -- at 23: .ireturn
        exact w_zret C dX10_back_23 (Or.inl rfl) (by decide) (by decide) (Or.inl ⟨Or.inr rfl, DetI rfl rfl⟩)
      · obtain ⟨hM, hb1, hb2⟩ := hI a.toNat b (by omega) hR
        show wp Γ 0 0 _ _ _ [.ref b] _ _ _ _ _
        refine w_astore_n (pc2 := 18) C dX10_back_17 rfl (by decide) rfl rfl ?_
        try dsimp only [List.set]
        refine w_aload_n (pc2 := 19) C dX10_back_18 rfl rfl ?_
        -- at 19: .ifnonnull 5
        refine w_ifnonnull (tgt := 24) C dX10_back_19 (by decide) ?_
        refine w_aload_n (pc2 := 25) C dX10_back_24 rfl rfl ?_
        refine w_getR (pc2 := 28) C dX10_back_25 fl_X10_28 (by first | exact hy.k _ | assumption) (by first | exact hy.r _ _ | assumption) rfl ?_
        refine w_aload_n (pc2 := 29) C dX10_back_28 rfl rfl ?_
        -- at 29: .invokevirtual 224
        refine w_cVv (pc2 := 32)  C dX10_back_29 mb_X10_224 mv_X2_copyFrom (s_X2_copyFrom (a := 11) (b := b) hy.m hM) (by first | exact hy.k _ | assumption) rfl (by decide) rfl rfl (Nat.le_of_ble_eq_true rfl) ⟨by decide, by decide⟩ ⟨rfl, rfl⟩ ⟨by decide, by decide⟩ rfl ?_
        refine w_aload_n (pc2 := 33) C dX10_back_32 rfl rfl ?_
        refine w_iconst (pc2 := 34) (v := iI 0) C dX10_back_33 (by decide) rfl ?_
        refine z_putI (pc2 := 37) C dX10_back_34 fl_X10_63 (by first | exact hy.k _ | assumption) (by rfl) (by rfl) rfl ?_
        refine w_iconst (pc2 := 38) (v := iI 1) C dX10_back_37 (by decide) rfl ?_
        -- at 38: .ireturn
        exact w_zret C dX10_back_38 (Or.inr rfl) (by decide) (by decide) (Or.inr ⟨b, by omega, g2, rfl, ⟨rfl, rfl, rfl, rfl, rfl, rfl⟩⟩)
    · skip
      refine w_iconst (pc2 := 10) (v := iI 0) C dX10_back_9 (by decide) rfl ?_
      -- at 10: .ireturn
      exact w_zret C dX10_back_10 (Or.inl rfl) (by decide) (by decide) (Or.inl ⟨Or.inl (by omega), DetI rfl rfl⟩)
end IMAGE
