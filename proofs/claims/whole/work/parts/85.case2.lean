section CASES2
theorem lc_count {Γ : Gm} {Q : State → Prop} {cells slots n i b Ls : Nat} {xs : Nat → Int32} {K : wKd} {J : wJn} {L : wLn} {R : wRf} (C : C_L Γ) (hSc : ScA Γ b Ls xs) (hi : i + 6 ≤ Ls) (hc2 : cells + 12 ≤ 600000 ∧ slots + 569 ≤ 7302250) (hI : Inv n K J L R) (nx : Nx Γ Q b i cells slots) : wp Γ cells slots Q 307 [some (.retAddr b), some (.ref 0), some (.ref 34), some (.int (iI (i : Int)))] [] n K (zw J) L R := by
  have hL32 := hSc.2.2.2
  have hcs : cells ≤ room_1.cells ∧ slots ≤ room_1.slots := ⟨by show cells ≤ 600000; omega, by show slots ≤ 7302250; omega⟩
  have hy := hI.1
  obtain ⟨c, m, s, hM, hS⟩ := hI.2.2.2.2.2.1
  obtain ⟨a1, x1, y1, e1⟩ := ix_cases (xs (i + 1))
  refine w_aload_n (pc2 := 308) C dL_law_307 rfl rfl ?_
  refine w_aload_nx (pc2 := 309) C dL_law_308 rfl rfl ?_
  refine w_iload_n (pc2 := 310) C dL_law_309 rfl rfl ?_
  refine w_iconst (pc2 := 311) (v := iI 1) C dL_law_310 (by decide) rfl ?_
  refine z_iadd (pc2 := 312) C dL_law_311 rfl ?_
  -- at 312: .iaload
  refine w_sld (pc2 := 313) (j := i + 1) C hSc dL_law_312 (by omega) (by omega) rfl ?_
  rw [e1]
  refine w_gV (pc2 := 316)  C dL_law_313 mb_L_38 mv_X10_count (s_X10_count hy ⟨x1, y1⟩ hM.mus hM.r1 hM.r2 hS) (by first | exact hy.k _ | assumption | rfl | ((try simp only [kM, kTo, kSc, nK]); (repeat rw [up1_n _ _ _ (by omega)]); first | assumption | exact up1_s _ _ _)) rfl (by decide) rfl rfl (Nat.le_of_ble_eq_true rfl) ⟨by decide, by decide⟩ ⟨rfl, rfl⟩ hcs rfl ?_
  rintro r2 n2 K2 I2 L2 R2 hp
  rcases hp with ⟨h2, hD⟩ | ⟨h2, J1, hD, hT⟩
  · skip
    obtain ⟨d1, d2, d3, d4, d5, d6⟩ := hD
    replace d2 := d2.symm
    replace d3 := d3.symm
    replace d5 := d5.symm
    replace d6 := d6.symm
    subst d1
    subst d2
    subst d3
    subst d4
    subst d5
    subst d6
    refine w_aload_n (pc2 := 317) C dL_law_316 rfl rfl ?_
    refine w_aload_nx (pc2 := 318) C dL_law_317 rfl rfl ?_
    refine w_iload_n (pc2 := 319) C dL_law_318 rfl rfl ?_
    refine w_iconst (pc2 := 320) (v := iI 1) C dL_law_319 (by decide) rfl ?_
    refine z_iadd (pc2 := 321) C dL_law_320 rfl ?_
    -- at 321: .iaload
    refine w_sld (pc2 := 322) (j := i + 1) C hSc dL_law_321 (by omega) (by omega) rfl ?_
    rw [e1]
    refine w_gV (pc2 := 325)  C dL_law_322 mb_L_41 mv_X11_count (s_X11_count hy ⟨x1, y1⟩ hM.mur hM.rpr) (by first | exact hy.k _ | assumption | rfl | ((try simp only [kM, kTo, kSc, nK]); (repeat rw [up1_n _ _ _ (by omega)]); first | assumption | exact up1_s _ _ _)) rfl (by decide) rfl rfl (Nat.le_of_ble_eq_true rfl) ⟨by decide, by decide⟩ ⟨rfl, rfl⟩ hcs rfl ?_
    rintro r2 n2 K2 I2 L2 R2 hp
    rcases hp with ⟨h3, hD⟩ | ⟨h3, J2, hD, hT2⟩
    · skip
      obtain ⟨d1, d2, d3, d4, d5, d6⟩ := hD
      replace d2 := d2.symm
      replace d3 := d3.symm
      replace d5 := d5.symm
      replace d6 := d6.symm
      subst d1
      subst d2
      subst d3
      subst d4
      subst d5
      subst d6
      refine w_icmp_eq (pc2 := 328) (tgt := 762) C dL_law_325 (by decide) rfl (fun _ => ?_) (fun h => absurd ?_ h)
      · exact nx.lo hI
      · have e12 : J 12 2 = (c : Int) := hM.mus.1
        have e13 : J 35 1 = J 12 3 := hM.1.2.2.2.1
        rw [e12, e13]
    · exact absurd h3 h2
  · skip
    obtain ⟨d1, d2, d3, d4, d5, d6⟩ := hD
    replace d2 := d2.symm
    replace d3 := d3.symm
    replace d5 := d5.symm
    replace d6 := d6.symm
    subst d1
    subst d2
    subst d3
    subst d4
    subst d5
    subst d6
    have hI1 := ts_inv hI hM hT
    have hM1 := ts_MM hM hT
    refine w_aload_n (pc2 := 317) C dL_law_316 rfl rfl ?_
    refine w_aload_nx (pc2 := 318) C dL_law_317 rfl rfl ?_
    refine w_iload_n (pc2 := 319) C dL_law_318 rfl rfl ?_
    refine w_iconst (pc2 := 320) (v := iI 1) C dL_law_319 (by decide) rfl ?_
    refine z_iadd (pc2 := 321) C dL_law_320 rfl ?_
    -- at 321: .iaload
    refine w_sld (pc2 := 322) (j := i + 1) C hSc dL_law_321 (by omega) (by omega) rfl ?_
    rw [e1]
    refine w_gV (pc2 := 325)  C dL_law_322 mb_L_41 mv_X11_count (s_X11_count hy ⟨x1, y1⟩ hM1.mur hM1.rpr) (by first | exact hy.k _ | assumption | rfl | ((try simp only [kM, kTo, kSc, nK]); (repeat rw [up1_n _ _ _ (by omega)]); first | assumption | exact up1_s _ _ _)) rfl (by decide) rfl rfl (Nat.le_of_ble_eq_true rfl) ⟨by decide, by decide⟩ ⟨rfl, rfl⟩ hcs rfl ?_
    rintro r2 n2 K2 I2 L2 R2 hp
    rcases hp with ⟨h3, hD⟩ | ⟨h3, J2, hD, hT2⟩
    · exact absurd h2 h3
    · skip
      obtain ⟨d1, d2, d3, d4, d5, d6⟩ := hD
      replace d2 := d2.symm
      replace d3 := d3.symm
      replace d5 := d5.symm
      replace d6 := d6.symm
      subst d1
      subst d2
      subst d3
      subst d4
      subst d5
      subst d6
      refine w_icmp_eq (pc2 := 328) (tgt := 762) C dL_law_325 (by decide) rfl (fun _ => ?_) (fun h => absurd ?_ h)
      · exact nx.lo (st_inv hI1 hT2)
      · rw [(set_eq hM1 hT.2.2.2).2.1]

theorem lc_cost {Γ : Gm} {Q : State → Prop} {cells slots n i b Ls : Nat} {xs : Nat → Int32} {K : wKd} {J : wJn} {L : wLn} {R : wRf} (C : C_L Γ) (hSc : ScA Γ b Ls xs) (hi : i + 6 ≤ Ls) (hc2 : cells + 12 ≤ 600000 ∧ slots + 569 ≤ 7302250) (hI : Inv n K J L R) (nx : Nx Γ Q b i cells slots) : wp Γ cells slots Q 363 [some (.retAddr b), some (.ref 0), some (.ref 34), some (.int (iI (i : Int)))] [] n K (zw J) L R := by
  have hL32 := hSc.2.2.2
  have hcs : cells ≤ room_1.cells ∧ slots ≤ room_1.slots := ⟨by show cells ≤ 600000; omega, by show slots ≤ 7302250; omega⟩
  have hy := hI.1
  obtain ⟨c, m, s, hM, hS⟩ := hI.2.2.2.2.2.1
  refine w_aload_n (pc2 := 364) C dL_law_363 rfl rfl ?_
  -- at 364: .invokevirtual 47
  refine w_gV (pc2 := 367)  C dL_law_364 mb_L_47 mv_X10_cost (s_X10_cost hy hM.mus hM.r1 hM.r2 hS) (by first | exact hy.k _ | assumption | rfl | ((try simp only [kM, kTo, kSc, nK]); (repeat rw [up1_n _ _ _ (by omega)]); first | assumption | exact up1_s _ _ _)) rfl (by decide) rfl rfl (Nat.le_of_ble_eq_true rfl) ⟨by decide, by decide⟩ ⟨rfl, rfl⟩ hcs rfl ?_
  rintro r2 n2 K2 I2 L2 R2 ⟨J1, hD, hT⟩
  obtain ⟨d1, d2, d3, d4, d5, d6⟩ := hD
  replace d2 := d2.symm
  replace d3 := d3.symm
  replace d5 := d5.symm
  replace d6 := d6.symm
  subst d1
  subst d2
  subst d3
  subst d4
  subst d5
  subst d6
  have hI1 := ts_inv hI hM hT
  have hM1 := ts_MM hM hT
  refine w_aload_n (pc2 := 368) C dL_law_367 rfl rfl ?_
  -- at 368: .invokevirtual 50
  refine w_gV (pc2 := 371)  C dL_law_368 mb_L_50 mv_X11_cost (s_X11_cost hy hM1.mur hM1.rpr) (by first | exact hy.k _ | assumption | rfl | ((try simp only [kM, kTo, kSc, nK]); (repeat rw [up1_n _ _ _ (by omega)]); first | assumption | exact up1_s _ _ _)) rfl (by decide) rfl rfl (Nat.le_of_ble_eq_true rfl) ⟨by decide, by decide⟩ ⟨rfl, rfl⟩ hcs rfl ?_
  rintro r2 n2 K2 I2 L2 R2 ⟨J2, hD, hT2⟩
  obtain ⟨d1, d2, d3, d4, d5, d6⟩ := hD
  replace d2 := d2.symm
  replace d3 := d3.symm
  replace d5 := d5.symm
  replace d6 := d6.symm
  subst d1
  subst d2
  subst d3
  subst d4
  subst d5
  subst d6
  refine w_icmp_eq (pc2 := 374) (tgt := 762) C dL_law_371 (by decide) rfl (fun _ => ?_) (fun h => absurd ?_ h)
  · exact nx.lo (st_inv hI1 hT2)
  · show iI (J1 24 2) = iI (oR J1 c c 0 0)
    rw [(set_eq hM1 hT.2.2.2).1]

theorem lc_need {Γ : Gm} {Q : State → Prop} {cells slots n i b Ls : Nat} {xs : Nat → Int32} {K : wKd} {J : wJn} {L : wLn} {R : wRf} (C : C_L Γ) (hSc : ScA Γ b Ls xs) (hi : i + 6 ≤ Ls) (hc2 : cells + 12 ≤ 600000 ∧ slots + 569 ≤ 7302250) (hI : Inv n K J L R) (nx : Nx Γ Q b i cells slots) : wp Γ cells slots Q 376 [some (.retAddr b), some (.ref 0), some (.ref 34), some (.int (iI (i : Int)))] [] n K (zw J) L R := by
  have hL32 := hSc.2.2.2
  have hcs : cells ≤ room_1.cells ∧ slots ≤ room_1.slots := ⟨by show cells ≤ 600000; omega, by show slots ≤ 7302250; omega⟩
  have hy := hI.1
  obtain ⟨c, m, s, hM, hS⟩ := hI.2.2.2.2.2.1
  refine w_aload_n (pc2 := 377) C dL_law_376 rfl rfl ?_
  -- at 377: .invokevirtual 51
  refine w_gV (pc2 := 380)  C dL_law_377 mb_L_51 mv_X10_need (s_X10_need hy hM.mus) (by first | exact hy.k _ | assumption | rfl | ((try simp only [kM, kTo, kSc, nK]); (repeat rw [up1_n _ _ _ (by omega)]); first | assumption | exact up1_s _ _ _)) rfl (by decide) rfl rfl (Nat.le_of_ble_eq_true rfl) ⟨by decide, by decide⟩ ⟨rfl, rfl⟩ hcs rfl ?_
  rintro r2 n2 K2 I2 L2 R2 ⟨J1, hD, hT⟩
  obtain ⟨d1, d2, d3, d4, d5, d6⟩ := hD
  replace d2 := d2.symm
  replace d3 := d3.symm
  replace d5 := d5.symm
  replace d6 := d6.symm
  subst d1
  subst d2
  subst d3
  subst d4
  subst d5
  subst d6
  have hI1 : Inv n K J1 L R := free_inv hI (fun a _ a2 a3 _ _ _ => hT a a2 a3)
  have hM1 : MM J1 L c m s := hM.rows (fun a b1 b2 b3 => hT a (by omega) (by omega)) (fun k _ => by rw [hT 35 (by decide) (by decide)]) rfl (fun _ _ => rfl)
  refine w_aload_n (pc2 := 381) C dL_law_380 rfl rfl ?_
  -- at 381: .invokevirtual 54
  refine w_gV (pc2 := 384)  C dL_law_381 mb_L_54 mv_X11_need (s_X11_need hy hM1.mur) (by first | exact hy.k _ | assumption | rfl | ((try simp only [kM, kTo, kSc, nK]); (repeat rw [up1_n _ _ _ (by omega)]); first | assumption | exact up1_s _ _ _)) rfl (by decide) rfl rfl (Nat.le_of_ble_eq_true rfl) ⟨by decide, by decide⟩ ⟨rfl, rfl⟩ hcs rfl ?_
  rintro r2 n2 K2 I2 L2 R2 ⟨J2, hD, hT2⟩
  obtain ⟨d1, d2, d3, d4, d5, d6⟩ := hD
  replace d2 := d2.symm
  replace d3 := d3.symm
  replace d5 := d5.symm
  replace d6 := d6.symm
  subst d1
  subst d2
  subst d3
  subst d4
  subst d5
  subst d6
  refine w_icmp_eq (pc2 := 387) (tgt := 762) C dL_law_384 (by decide) rfl (fun _ => ?_) (fun h => absurd ?_ h)
  · exact nx.lo (free_inv hI1 (fun a _ _ _ a4 _ _ => hT2 a a4))
  · show iI (needF (J 13) (J 14) c) = iI (ndX (tR J1) (bR J1) c 24 1)
    rw [← need_eq hM1.smu hM1.same, hT 13 (by decide) (by decide), hT 14 (by decide) (by decide)]

theorem lc_by {Γ : Gm} {Q : State → Prop} {cells slots n i b Ls : Nat} {xs : Nat → Int32} {K : wKd} {J : wJn} {L : wLn} {R : wRf} (C : C_L Γ) (hSc : ScA Γ b Ls xs) (hi : i + 6 ≤ Ls) (hc2 : cells + 12 ≤ 600000 ∧ slots + 569 ≤ 7302250) (hI : Inv n K J L R) (nx : Nx Γ Q b i cells slots) : wp Γ cells slots Q 389 [some (.retAddr b), some (.ref 0), some (.ref 34), some (.int (iI (i : Int)))] [] n K (zw J) L R := by
  have hL32 := hSc.2.2.2
  have hcs : cells ≤ room_1.cells ∧ slots ≤ room_1.slots := ⟨by show cells ≤ 600000; omega, by show slots ≤ 7302250; omega⟩
  have hy := hI.1
  obtain ⟨c, m, s, hM, hS⟩ := hI.2.2.2.2.2.1
  obtain ⟨a1, x1, y1, e1⟩ := ix_cases (xs (i + 1))
  refine w_aload_n (pc2 := 390) C dL_law_389 rfl rfl ?_
  refine w_aload_nx (pc2 := 391) C dL_law_390 rfl rfl ?_
  refine w_iload_n (pc2 := 392) C dL_law_391 rfl rfl ?_
  refine w_iconst (pc2 := 393) (v := iI 1) C dL_law_392 (by decide) rfl ?_
  refine z_iadd (pc2 := 394) C dL_law_393 rfl ?_
  -- at 394: .iaload
  refine w_sld (pc2 := 395) (j := i + 1) C hSc dL_law_394 (by omega) (by omega) rfl ?_
  rw [e1]
  refine w_gV (pc2 := 398)  C dL_law_395 mb_L_55 mv_X10_by (s_X10_by hy ⟨x1, y1⟩ hM.mus hM.r1 hM.r2 hS) (by first | exact hy.k _ | assumption | rfl | ((try simp only [kM, kTo, kSc, nK]); (repeat rw [up1_n _ _ _ (by omega)]); first | assumption | exact up1_s _ _ _)) rfl (by decide) rfl rfl (Nat.le_of_ble_eq_true rfl) ⟨by decide, by decide⟩ ⟨rfl, rfl⟩ hcs rfl ?_
  rintro r2 n2 K2 I2 L2 R2 hp
  rcases hp with ⟨h2, hD⟩ | ⟨h2, h2b, J1, hD, hT⟩
  · skip
    obtain ⟨d1, d2, d3, d4, d5, d6⟩ := hD
    replace d2 := d2.symm
    replace d3 := d3.symm
    replace d5 := d5.symm
    replace d6 := d6.symm
    subst d1
    subst d2
    subst d3
    subst d4
    subst d5
    subst d6
    refine w_aload_n (pc2 := 399) C dL_law_398 rfl rfl ?_
    refine w_aload_nx (pc2 := 400) C dL_law_399 rfl rfl ?_
    refine w_iload_n (pc2 := 401) C dL_law_400 rfl rfl ?_
    refine w_iconst (pc2 := 402) (v := iI 1) C dL_law_401 (by decide) rfl ?_
    refine z_iadd (pc2 := 403) C dL_law_402 rfl ?_
    -- at 403: .iaload
    refine w_sld (pc2 := 404) (j := i + 1) C hSc dL_law_403 (by omega) (by omega) rfl ?_
    rw [e1]
    refine w_gV (pc2 := 407)  C dL_law_404 mb_L_58 mv_X11_by (s_X11_by hy ⟨x1, y1⟩ hM.mur hM.rpr) (by first | exact hy.k _ | assumption | rfl | ((try simp only [kM, kTo, kSc, nK]); (repeat rw [up1_n _ _ _ (by omega)]); first | assumption | exact up1_s _ _ _)) rfl (by decide) rfl rfl (Nat.le_of_ble_eq_true rfl) ⟨by decide, by decide⟩ ⟨rfl, rfl⟩ hcs rfl ?_
    rintro r2 n2 K2 I2 L2 R2 hp
    rcases hp with ⟨h3, hD⟩ | ⟨h3, h3b, J2, hD, hT2⟩
    · skip
      obtain ⟨d1, d2, d3, d4, d5, d6⟩ := hD
      replace d2 := d2.symm
      replace d3 := d3.symm
      replace d5 := d5.symm
      replace d6 := d6.symm
      subst d1
      subst d2
      subst d3
      subst d4
      subst d5
      subst d6
      refine w_icmp_eq (pc2 := 410) (tgt := 762) C dL_law_407 (by decide) rfl (fun _ => ?_) (fun h => absurd ?_ h)
      · exact nx.lo hI
      · rfl
    · exact absurd ⟨h3, h3b⟩ h2
  · skip
    obtain ⟨d1, d2, d3, d4, d5, d6⟩ := hD
    replace d2 := d2.symm
    replace d3 := d3.symm
    replace d5 := d5.symm
    replace d6 := d6.symm
    subst d1
    subst d2
    subst d3
    subst d4
    subst d5
    subst d6
    have hI1 := ts_inv hI hM hT
    have hM1 := ts_MM hM hT
    refine w_aload_n (pc2 := 399) C dL_law_398 rfl rfl ?_
    refine w_aload_nx (pc2 := 400) C dL_law_399 rfl rfl ?_
    refine w_iload_n (pc2 := 401) C dL_law_400 rfl rfl ?_
    refine w_iconst (pc2 := 402) (v := iI 1) C dL_law_401 (by decide) rfl ?_
    refine z_iadd (pc2 := 403) C dL_law_402 rfl ?_
    -- at 403: .iaload
    refine w_sld (pc2 := 404) (j := i + 1) C hSc dL_law_403 (by omega) (by omega) rfl ?_
    rw [e1]
    refine w_gV (pc2 := 407)  C dL_law_404 mb_L_58 mv_X11_by (s_X11_by hy ⟨x1, y1⟩ hM1.mur hM1.rpr) (by first | exact hy.k _ | assumption | rfl | ((try simp only [kM, kTo, kSc, nK]); (repeat rw [up1_n _ _ _ (by omega)]); first | assumption | exact up1_s _ _ _)) rfl (by decide) rfl rfl (Nat.le_of_ble_eq_true rfl) ⟨by decide, by decide⟩ ⟨rfl, rfl⟩ hcs rfl ?_
    rintro r2 n2 K2 I2 L2 R2 hp
    rcases hp with ⟨h3, hD⟩ | ⟨h3, h3b, J2, hD, hT2⟩
    · exact absurd ⟨h2, h2b⟩ h3
    · skip
      obtain ⟨d1, d2, d3, d4, d5, d6⟩ := hD
      replace d2 := d2.symm
      replace d3 := d3.symm
      replace d5 := d5.symm
      replace d6 := d6.symm
      subst d1
      subst d2
      subst d3
      subst d4
      subst d5
      subst d6
      refine w_icmp_eq (pc2 := 410) (tgt := 762) C dL_law_407 (by decide) rfl (fun _ => ?_) (fun h => absurd ?_ h)
      · exact nx.lo (st_inv hI1 hT2)
      · rw [(set_eq hM1 hT.2.2.2).2.2.1 a1.toNat (by omega)]

theorem lc_way {Γ : Gm} {Q : State → Prop} {cells slots n i b Ls : Nat} {xs : Nat → Int32} {K : wKd} {J : wJn} {L : wLn} {R : wRf} (C : C_L Γ) (hSc : ScA Γ b Ls xs) (hi : i + 6 ≤ Ls) (hc2 : cells + 12 ≤ 600000 ∧ slots + 569 ≤ 7302250) (hI : Inv n K J L R) (nx : Nx Γ Q b i cells slots) : wp Γ cells slots Q 412 [some (.retAddr b), some (.ref 0), some (.ref 34), some (.int (iI (i : Int)))] [] n K (zw J) L R := by
  have hL32 := hSc.2.2.2
  have hcs : cells ≤ room_1.cells ∧ slots ≤ room_1.slots := ⟨by show cells ≤ 600000; omega, by show slots ≤ 7302250; omega⟩
  have hy := hI.1
  obtain ⟨c, m, s, hM, hS⟩ := hI.2.2.2.2.2.1
  obtain ⟨a1, x1, y1, e1⟩ := ix_cases (xs (i + 1))
  refine w_aload_n (pc2 := 413) C dL_law_412 rfl rfl ?_
  refine w_aload_nx (pc2 := 414) C dL_law_413 rfl rfl ?_
  refine w_iload_n (pc2 := 415) C dL_law_414 rfl rfl ?_
  refine w_iconst (pc2 := 416) (v := iI 1) C dL_law_415 (by decide) rfl ?_
  refine z_iadd (pc2 := 417) C dL_law_416 rfl ?_
  -- at 417: .iaload
  refine w_sld (pc2 := 418) (j := i + 1) C hSc dL_law_417 (by omega) (by omega) rfl ?_
  rw [e1]
  refine w_gV (pc2 := 421)  C dL_law_418 mb_L_59 mv_X10_way (s_X10_way hy ⟨x1, y1⟩ hM.mus hM.r1 hM.r2 hS) (by first | exact hy.k _ | assumption | rfl | ((try simp only [kM, kTo, kSc, nK]); (repeat rw [up1_n _ _ _ (by omega)]); first | assumption | exact up1_s _ _ _)) rfl (by decide) rfl rfl (Nat.le_of_ble_eq_true rfl) ⟨by decide, by decide⟩ ⟨rfl, rfl⟩ hcs rfl ?_
  rintro r2 n2 K2 I2 L2 R2 hp
  rcases hp with ⟨h2, hD⟩ | ⟨h2, J1, hD, hT⟩
  · skip
    obtain ⟨d1, d2, d3, d4, d5, d6⟩ := hD
    replace d2 := d2.symm
    replace d3 := d3.symm
    replace d5 := d5.symm
    replace d6 := d6.symm
    subst d1
    subst d2
    subst d3
    subst d4
    subst d5
    subst d6
    refine w_aload_n (pc2 := 422) C dL_law_421 rfl rfl ?_
    refine w_aload_nx (pc2 := 423) C dL_law_422 rfl rfl ?_
    refine w_iload_n (pc2 := 424) C dL_law_423 rfl rfl ?_
    refine w_iconst (pc2 := 425) (v := iI 1) C dL_law_424 (by decide) rfl ?_
    refine z_iadd (pc2 := 426) C dL_law_425 rfl ?_
    -- at 426: .iaload
    refine w_sld (pc2 := 427) (j := i + 1) C hSc dL_law_426 (by omega) (by omega) rfl ?_
    rw [e1]
    refine w_gV (pc2 := 430)  C dL_law_427 mb_L_62 mv_X11_way (s_X11_way hy ⟨x1, y1⟩ hM.mur hM.rpr) (by first | exact hy.k _ | assumption | rfl | ((try simp only [kM, kTo, kSc, nK]); (repeat rw [up1_n _ _ _ (by omega)]); first | assumption | exact up1_s _ _ _)) rfl (by decide) rfl rfl (Nat.le_of_ble_eq_true rfl) ⟨by decide, by decide⟩ ⟨rfl, rfl⟩ hcs rfl ?_
    rintro r2 n2 K2 I2 L2 R2 hp
    rcases hp with ⟨h3, hD⟩ | ⟨h3, J2, hD, hT2⟩
    · skip
      obtain ⟨d1, d2, d3, d4, d5, d6⟩ := hD
      replace d2 := d2.symm
      replace d3 := d3.symm
      replace d5 := d5.symm
      replace d6 := d6.symm
      subst d1
      subst d2
      subst d3
      subst d4
      subst d5
      subst d6
      refine w_icmp_eq (pc2 := 433) (tgt := 762) C dL_law_430 (by decide) rfl (fun _ => ?_) (fun h => absurd ?_ h)
      · exact nx.lo hI
      · rfl
    · exact absurd h3 h2
  · skip
    obtain ⟨d1, d2, d3, d4, d5, d6⟩ := hD
    replace d2 := d2.symm
    replace d3 := d3.symm
    replace d5 := d5.symm
    replace d6 := d6.symm
    subst d1
    subst d2
    subst d3
    subst d4
    subst d5
    subst d6
    have hI1 := ts_inv hI hM hT
    have hM1 := ts_MM hM hT
    refine w_aload_n (pc2 := 422) C dL_law_421 rfl rfl ?_
    refine w_aload_nx (pc2 := 423) C dL_law_422 rfl rfl ?_
    refine w_iload_n (pc2 := 424) C dL_law_423 rfl rfl ?_
    refine w_iconst (pc2 := 425) (v := iI 1) C dL_law_424 (by decide) rfl ?_
    refine z_iadd (pc2 := 426) C dL_law_425 rfl ?_
    -- at 426: .iaload
    refine w_sld (pc2 := 427) (j := i + 1) C hSc dL_law_426 (by omega) (by omega) rfl ?_
    rw [e1]
    refine w_gV (pc2 := 430)  C dL_law_427 mb_L_62 mv_X11_way (s_X11_way hy ⟨x1, y1⟩ hM1.mur hM1.rpr) (by first | exact hy.k _ | assumption | rfl | ((try simp only [kM, kTo, kSc, nK]); (repeat rw [up1_n _ _ _ (by omega)]); first | assumption | exact up1_s _ _ _)) rfl (by decide) rfl rfl (Nat.le_of_ble_eq_true rfl) ⟨by decide, by decide⟩ ⟨rfl, rfl⟩ hcs rfl ?_
    rintro r2 n2 K2 I2 L2 R2 hp
    rcases hp with ⟨h3, hD⟩ | ⟨h3, J2, hD, hT2⟩
    · exact absurd h2 h3
    · skip
      obtain ⟨d1, d2, d3, d4, d5, d6⟩ := hD
      replace d2 := d2.symm
      replace d3 := d3.symm
      replace d5 := d5.symm
      replace d6 := d6.symm
      subst d1
      subst d2
      subst d3
      subst d4
      subst d5
      subst d6
      have hse := set_eq hM1 hT.2.2.2
      refine w_icmp_eq (pc2 := 433) (tgt := 762) C dL_law_430 (by decide) rfl (fun _ => ?_) (fun h => absurd ?_ h)
      · exact nx.lo (st_inv hI1 hT2)
      · rcases h2 with z | z
        · subst z
          show iI (J1 26 0) = iI (gR2 J1 c 0 c)
          rw [hse.2.2.2.1]
        · subst z
          show iI (J1 26 1) = iI (gR2 J1 c 1 c)
          rw [hse.2.2.2.2]

theorem lc_tail {Γ : Gm} {Q : State → Prop} {cells slots n i b Ls : Nat} {xs : Nat → Int32} {K : wKd} {J : wJn} {L : wLn} {R : wRf} (C : C_L Γ) (hSc : ScA Γ b Ls xs) (hi : i + 6 ≤ Ls) (hc2 : cells + 12 ≤ 600000 ∧ slots + 569 ≤ 7302250) (hI : Inv n K J L R) (nx : Nx Γ Q b i cells slots) : wp Γ cells slots Q 435 [some (.retAddr b), some (.ref 0), some (.ref 34), some (.int (iI (i : Int)))] [] n K (zw J) L R := by
  have hL32 := hSc.2.2.2
  have hcs : cells ≤ room_1.cells ∧ slots ≤ room_1.slots := ⟨by show cells ≤ 600000; omega, by show slots ≤ 7302250; omega⟩
  have hy := hI.1
  obtain ⟨c, m, s, hM, hS⟩ := hI.2.2.2.2.2.1
  obtain ⟨a1, x1, y1, e1⟩ := ix_cases (xs (i + 1))
  obtain ⟨a2, x2, y2, e2⟩ := ix_cases (xs (i + 2))
  by_cases hc : 0 ≤ a1 ∧ a1 < 24 ∧ 1 ≤ a2 ∧ a2 ≤ 60
  · have hc3 : (0 ≤ a1 ∧ a1 < 24) ∧ 1 ≤ a2 ∧ a2 ≤ 60 := by omega
    refine w_aload_n (pc2 := 436) C dL_law_435 rfl rfl ?_
    refine w_aload_nx (pc2 := 437) C dL_law_436 rfl rfl ?_
    refine w_iload_n (pc2 := 438) C dL_law_437 rfl rfl ?_
    refine w_iconst (pc2 := 439) (v := iI 1) C dL_law_438 (by decide) rfl ?_
    refine z_iadd (pc2 := 440) C dL_law_439 rfl ?_
    -- at 440: .iaload
    refine w_sld (pc2 := 441) (j := i + 1) C hSc dL_law_440 (by omega) (by omega) rfl ?_
    rw [e1]
    refine w_aload_nx (pc2 := 442) C dL_law_441 rfl rfl ?_
    refine w_iload_n (pc2 := 443) C dL_law_442 rfl rfl ?_
    refine w_iconst (pc2 := 444) (v := iI 2) C dL_law_443 (by decide) rfl ?_
    refine z_iadd (pc2 := 445) C dL_law_444 rfl ?_
    -- at 445: .iaload
    refine w_sld (pc2 := 446) (j := i + 2) C hSc dL_law_445 (by omega) (by omega) rfl ?_
    rw [e2]
    refine w_cVi (pc2 := 449)  C dL_law_446 mb_L_63 mv_X10_tail (s_X10_tail hy ⟨x1, y1⟩ ⟨x2, y2⟩) (by first | exact hy.k _ | assumption | rfl | ((try simp only [kM, kTo, kSc, nK]); (repeat rw [up1_n _ _ _ (by omega)]); first | assumption | exact up1_s _ _ _)) rfl (by decide) rfl rfl (Nat.le_of_ble_eq_true rfl) ⟨by decide, by decide⟩ ⟨rfl, rfl⟩ hcs rfl ?_
    rw [if_pos hc, if_pos hc]
    refine w_aload_n (pc2 := 450) C dL_law_449 rfl rfl ?_
    refine w_aload_nx (pc2 := 451) C dL_law_450 rfl rfl ?_
    refine w_iload_n (pc2 := 452) C dL_law_451 rfl rfl ?_
    refine w_iconst (pc2 := 453) (v := iI 1) C dL_law_452 (by decide) rfl ?_
    refine z_iadd (pc2 := 454) C dL_law_453 rfl ?_
    -- at 454: .iaload
    refine w_sld (pc2 := 455) (j := i + 1) C hSc dL_law_454 (by omega) (by omega) rfl ?_
    rw [e1]
    refine w_aload_nx (pc2 := 456) C dL_law_455 rfl rfl ?_
    refine w_iload_n (pc2 := 457) C dL_law_456 rfl rfl ?_
    refine w_iconst (pc2 := 458) (v := iI 2) C dL_law_457 (by decide) rfl ?_
    refine z_iadd (pc2 := 459) C dL_law_458 rfl ?_
    -- at 459: .iaload
    refine w_sld (pc2 := 460) (j := i + 2) C hSc dL_law_459 (by omega) (by omega) rfl ?_
    rw [e2]
    refine w_cVi (pc2 := 463)  C dL_law_460 mb_L_66 mv_X11_tail (s_X11_tail hy ⟨x1, y1⟩ ⟨x2, y2⟩) (by first | exact hy.k _ | assumption | rfl | ((try simp only [kM, kTo, kSc, nK]); (repeat rw [up1_n _ _ _ (by omega)]); first | assumption | exact up1_s _ _ _)) rfl (by decide) rfl rfl (Nat.le_of_ble_eq_true rfl) ⟨by decide, by decide⟩ ⟨rfl, rfl⟩ hcs rfl ?_
    rw [if_pos hc3, if_pos hc3]
    refine w_icmp_eq (pc2 := 466) (tgt := 762) C dL_law_463 (by decide) rfl (fun _ => ?_) (fun h => absurd ?_ h)
    · exact nx.lo (tail_inv hI (by omega) (by omega))
    · rw [up2_row (by decide), hM.tls a1.toNat (by omega)]
  · have hc3 : ¬ ((0 ≤ a1 ∧ a1 < 24) ∧ 1 ≤ a2 ∧ a2 ≤ 60) := by omega
    refine w_aload_n (pc2 := 436) C dL_law_435 rfl rfl ?_
    refine w_aload_nx (pc2 := 437) C dL_law_436 rfl rfl ?_
    refine w_iload_n (pc2 := 438) C dL_law_437 rfl rfl ?_
    refine w_iconst (pc2 := 439) (v := iI 1) C dL_law_438 (by decide) rfl ?_
    refine z_iadd (pc2 := 440) C dL_law_439 rfl ?_
    -- at 440: .iaload
    refine w_sld (pc2 := 441) (j := i + 1) C hSc dL_law_440 (by omega) (by omega) rfl ?_
    rw [e1]
    refine w_aload_nx (pc2 := 442) C dL_law_441 rfl rfl ?_
    refine w_iload_n (pc2 := 443) C dL_law_442 rfl rfl ?_
    refine w_iconst (pc2 := 444) (v := iI 2) C dL_law_443 (by decide) rfl ?_
    refine z_iadd (pc2 := 445) C dL_law_444 rfl ?_
    -- at 445: .iaload
    refine w_sld (pc2 := 446) (j := i + 2) C hSc dL_law_445 (by omega) (by omega) rfl ?_
    rw [e2]
    refine w_cVi (pc2 := 449)  C dL_law_446 mb_L_63 mv_X10_tail (s_X10_tail hy ⟨x1, y1⟩ ⟨x2, y2⟩) (by first | exact hy.k _ | assumption | rfl | ((try simp only [kM, kTo, kSc, nK]); (repeat rw [up1_n _ _ _ (by omega)]); first | assumption | exact up1_s _ _ _)) rfl (by decide) rfl rfl (Nat.le_of_ble_eq_true rfl) ⟨by decide, by decide⟩ ⟨rfl, rfl⟩ hcs rfl ?_
    rw [if_neg hc, if_neg hc]
    refine w_aload_n (pc2 := 450) C dL_law_449 rfl rfl ?_
    refine w_aload_nx (pc2 := 451) C dL_law_450 rfl rfl ?_
    refine w_iload_n (pc2 := 452) C dL_law_451 rfl rfl ?_
    refine w_iconst (pc2 := 453) (v := iI 1) C dL_law_452 (by decide) rfl ?_
    refine z_iadd (pc2 := 454) C dL_law_453 rfl ?_
    -- at 454: .iaload
    refine w_sld (pc2 := 455) (j := i + 1) C hSc dL_law_454 (by omega) (by omega) rfl ?_
    rw [e1]
    refine w_aload_nx (pc2 := 456) C dL_law_455 rfl rfl ?_
    refine w_iload_n (pc2 := 457) C dL_law_456 rfl rfl ?_
    refine w_iconst (pc2 := 458) (v := iI 2) C dL_law_457 (by decide) rfl ?_
    refine z_iadd (pc2 := 459) C dL_law_458 rfl ?_
    -- at 459: .iaload
    refine w_sld (pc2 := 460) (j := i + 2) C hSc dL_law_459 (by omega) (by omega) rfl ?_
    rw [e2]
    refine w_cVi (pc2 := 463)  C dL_law_460 mb_L_66 mv_X11_tail (s_X11_tail hy ⟨x1, y1⟩ ⟨x2, y2⟩) (by first | exact hy.k _ | assumption | rfl | ((try simp only [kM, kTo, kSc, nK]); (repeat rw [up1_n _ _ _ (by omega)]); first | assumption | exact up1_s _ _ _)) rfl (by decide) rfl rfl (Nat.le_of_ble_eq_true rfl) ⟨by decide, by decide⟩ ⟨rfl, rfl⟩ hcs rfl ?_
    rw [if_neg hc3, if_neg hc3]
    refine w_icmp_eq (pc2 := 466) (tgt := 762) C dL_law_463 (by decide) rfl (fun _ => ?_) (fun h => absurd ?_ h)
    · exact nx.lo hI
    · rfl

theorem lc_quarrel {Γ : Gm} {Q : State → Prop} {cells slots n i b Ls : Nat} {xs : Nat → Int32} {K : wKd} {J : wJn} {L : wLn} {R : wRf} (C : C_L Γ) (hSc : ScA Γ b Ls xs) (hi : i + 6 ≤ Ls) (hc2 : cells + 12 ≤ 600000 ∧ slots + 569 ≤ 7302250) (hI : Inv n K J L R) (nx : Nx Γ Q b i cells slots) : wp Γ cells slots Q 468 [some (.retAddr b), some (.ref 0), some (.ref 34), some (.int (iI (i : Int)))] [] n K (zw J) L R := by
  have hL32 := hSc.2.2.2
  have hcs : cells ≤ room_1.cells ∧ slots ≤ room_1.slots := ⟨by show cells ≤ 600000; omega, by show slots ≤ 7302250; omega⟩
  have hy := hI.1
  obtain ⟨c, m, s, hM, hS⟩ := hI.2.2.2.2.2.1
  obtain ⟨a1, x1, y1, e1⟩ := ix_cases (xs (i + 1))
  by_cases hc : 0 ≤ a1 ∧ a1 ≤ 4095
  · skip
    refine w_aload_n (pc2 := 469) C dL_law_468 rfl rfl ?_
    refine w_aload_nx (pc2 := 470) C dL_law_469 rfl rfl ?_
    refine w_iload_n (pc2 := 471) C dL_law_470 rfl rfl ?_
    refine w_iconst (pc2 := 472) (v := iI 1) C dL_law_471 (by decide) rfl ?_
    refine z_iadd (pc2 := 473) C dL_law_472 rfl ?_
    -- at 473: .iaload
    refine w_sld (pc2 := 474) (j := i + 1) C hSc dL_law_473 (by omega) (by omega) rfl ?_
    rw [e1]
    refine w_cVi (pc2 := 477)  C dL_law_474 mb_L_67 mv_X10_quarrel (s_X10_quarrel hy ⟨x1, y1⟩) (by first | exact hy.k _ | assumption | rfl | ((try simp only [kM, kTo, kSc, nK]); (repeat rw [up1_n _ _ _ (by omega)]); first | assumption | exact up1_s _ _ _)) rfl (by decide) rfl rfl (Nat.le_of_ble_eq_true rfl) ⟨by decide, by decide⟩ ⟨rfl, rfl⟩ hcs rfl ?_
    rw [if_pos hc, if_pos hc]
    refine w_aload_n (pc2 := 478) C dL_law_477 rfl rfl ?_
    refine w_aload_nx (pc2 := 479) C dL_law_478 rfl rfl ?_
    refine w_iload_n (pc2 := 480) C dL_law_479 rfl rfl ?_
    refine w_iconst (pc2 := 481) (v := iI 1) C dL_law_480 (by decide) rfl ?_
    refine z_iadd (pc2 := 482) C dL_law_481 rfl ?_
    -- at 482: .iaload
    refine w_sld (pc2 := 483) (j := i + 1) C hSc dL_law_482 (by omega) (by omega) rfl ?_
    rw [e1]
    refine w_cVi (pc2 := 486)  C dL_law_483 mb_L_70 mv_X11_quarrel (s_X11_quarrel hy ⟨x1, y1⟩) (by first | exact hy.k _ | assumption | rfl | ((try simp only [kM, kTo, kSc, nK]); (repeat rw [up1_n _ _ _ (by omega)]); first | assumption | exact up1_s _ _ _)) rfl (by decide) rfl rfl (Nat.le_of_ble_eq_true rfl) ⟨by decide, by decide⟩ ⟨rfl, rfl⟩ hcs rfl ?_
    rw [if_pos hc, if_pos hc]
    refine w_icmp_eq (pc2 := 489) (tgt := 762) C dL_law_486 (by decide) rfl (fun _ => ?_) (fun h => absurd ?_ h)
    · exact nx.lo (quarrel_inv hI)
    · rw [up2_row (by decide), hM.qb]
  · skip
    refine w_aload_n (pc2 := 469) C dL_law_468 rfl rfl ?_
    refine w_aload_nx (pc2 := 470) C dL_law_469 rfl rfl ?_
    refine w_iload_n (pc2 := 471) C dL_law_470 rfl rfl ?_
    refine w_iconst (pc2 := 472) (v := iI 1) C dL_law_471 (by decide) rfl ?_
    refine z_iadd (pc2 := 473) C dL_law_472 rfl ?_
    -- at 473: .iaload
    refine w_sld (pc2 := 474) (j := i + 1) C hSc dL_law_473 (by omega) (by omega) rfl ?_
    rw [e1]
    refine w_cVi (pc2 := 477)  C dL_law_474 mb_L_67 mv_X10_quarrel (s_X10_quarrel hy ⟨x1, y1⟩) (by first | exact hy.k _ | assumption | rfl | ((try simp only [kM, kTo, kSc, nK]); (repeat rw [up1_n _ _ _ (by omega)]); first | assumption | exact up1_s _ _ _)) rfl (by decide) rfl rfl (Nat.le_of_ble_eq_true rfl) ⟨by decide, by decide⟩ ⟨rfl, rfl⟩ hcs rfl ?_
    rw [if_neg hc, if_neg hc]
    refine w_aload_n (pc2 := 478) C dL_law_477 rfl rfl ?_
    refine w_aload_nx (pc2 := 479) C dL_law_478 rfl rfl ?_
    refine w_iload_n (pc2 := 480) C dL_law_479 rfl rfl ?_
    refine w_iconst (pc2 := 481) (v := iI 1) C dL_law_480 (by decide) rfl ?_
    refine z_iadd (pc2 := 482) C dL_law_481 rfl ?_
    -- at 482: .iaload
    refine w_sld (pc2 := 483) (j := i + 1) C hSc dL_law_482 (by omega) (by omega) rfl ?_
    rw [e1]
    refine w_cVi (pc2 := 486)  C dL_law_483 mb_L_70 mv_X11_quarrel (s_X11_quarrel hy ⟨x1, y1⟩) (by first | exact hy.k _ | assumption | rfl | ((try simp only [kM, kTo, kSc, nK]); (repeat rw [up1_n _ _ _ (by omega)]); first | assumption | exact up1_s _ _ _)) rfl (by decide) rfl rfl (Nat.le_of_ble_eq_true rfl) ⟨by decide, by decide⟩ ⟨rfl, rfl⟩ hcs rfl ?_
    rw [if_neg hc, if_neg hc]
    refine w_icmp_eq (pc2 := 489) (tgt := 762) C dL_law_486 (by decide) rfl (fun _ => ?_) (fun h => absurd ?_ h)
    · exact nx.lo hI
    · rfl

theorem lc_quarrels {Γ : Gm} {Q : State → Prop} {cells slots n i b Ls : Nat} {xs : Nat → Int32} {K : wKd} {J : wJn} {L : wLn} {R : wRf} (C : C_L Γ) (hSc : ScA Γ b Ls xs) (hi : i + 6 ≤ Ls) (hc2 : cells + 12 ≤ 600000 ∧ slots + 569 ≤ 7302250) (hI : Inv n K J L R) (nx : Nx Γ Q b i cells slots) : wp Γ cells slots Q 491 [some (.retAddr b), some (.ref 0), some (.ref 34), some (.int (iI (i : Int)))] [] n K (zw J) L R := by
  have hL32 := hSc.2.2.2
  have hcs : cells ≤ room_1.cells ∧ slots ≤ room_1.slots := ⟨by show cells ≤ 600000; omega, by show slots ≤ 7302250; omega⟩
  have hy := hI.1
  obtain ⟨c, m, s, hM, hS⟩ := hI.2.2.2.2.2.1
  have hT : ∀ a, a ≠ 17 → lnJ J c a = J a := fun a ha => ov_row ha
  have hI1 : Inv n K (lnJ J c) L R := free_inv hI (fun a a1 _ _ _ _ _ => hT a a1)
  have hM1 : MM (lnJ J c) L c m s := hM.rows (fun a b1 b2 b3 => hT a b3) (fun k _ => by rw [hT 35 (by decide)]) rfl (fun _ _ => rfl)
  refine w_aload_n (pc2 := 492) C dL_law_491 rfl rfl ?_
  -- at 492: .invokevirtual 71
  refine w_cVi (pc2 := 495)  C dL_law_492 mb_L_71 mv_X10_quarrels (s_X10_quarrels hy hM.mus hM.tai) (by first | exact hy.k _ | assumption | rfl | ((try simp only [kM, kTo, kSc, nK]); (repeat rw [up1_n _ _ _ (by omega)]); first | assumption | exact up1_s _ _ _)) rfl (by decide) rfl rfl (Nat.le_of_ble_eq_true rfl) ⟨by decide, by decide⟩ ⟨rfl, rfl⟩ hcs rfl ?_
  refine w_aload_n (pc2 := 496) C dL_law_495 rfl rfl ?_
  -- at 496: .invokevirtual 74
  refine w_cVi (pc2 := 499)  C dL_law_496 mb_L_74 mv_X11_quarrels (s_X11_quarrels hy hM1.mur hM1.tar) (by first | exact hy.k _ | assumption | rfl | ((try simp only [kM, kTo, kSc, nK]); (repeat rw [up1_n _ _ _ (by omega)]); first | assumption | exact up1_s _ _ _)) rfl (by decide) rfl rfl (Nat.le_of_ble_eq_true rfl) ⟨by decide, by decide⟩ ⟨rfl, rfl⟩ hcs rfl ?_
  refine w_icmp_eq (pc2 := 502) (tgt := 762) C dL_law_499 (by decide) rfl (fun _ => ?_) (fun h => absurd ?_ h)
  · exact nx.lo hI1
  · have e35 := hT 35 (by decide)
    have et : tR (lnJ J c) = tR J := by
      funext k
      show lnJ J c 35 (2 + k) = J 35 (2 + k)
      rw [e35]
    have eb : bR (lnJ J c) = bR J := by
      funext k
      show lnJ J c 35 (102 + k) = J 35 (102 + k)
      rw [e35]
    have hcan : ∀ a b, canR (lnJ J c) a b = canR J a b := by
      intro a b
      unfold canR
      rw [eb, e35]
    have hsn : ∀ k, sndR (lnJ J c) c k = sndR J c k := by
      intro k
      unfold sndR
      rw [et, eb, e35]
    have hqv : ∀ a b, qvR (lnJ J c) c a b = qvR J c a b := by
      intro a b
      unfold qvR
      rw [hcan, hsn, hsn, et]
    have eq : qouR (lnJ J c) c c = qouR J c c := by
      unfold qouR
      refine sumN_cong c (fun a _ => ?_)
      unfold qinR
      refine sumN_cong c (fun b _ => ?_)
      rw [hqv]
    rw [eq, quar_eq hM.smu hM.same hM.tls hM.qb]

theorem lc_sounds {Γ : Gm} {Q : State → Prop} {cells slots n i b Ls : Nat} {xs : Nat → Int32} {K : wKd} {J : wJn} {L : wLn} {R : wRf} (C : C_L Γ) (hSc : ScA Γ b Ls xs) (hi : i + 6 ≤ Ls) (hc2 : cells + 12 ≤ 600000 ∧ slots + 569 ≤ 7302250) (hI : Inv n K J L R) (nx : Nx Γ Q b i cells slots) : wp Γ cells slots Q 504 [some (.retAddr b), some (.ref 0), some (.ref 34), some (.int (iI (i : Int)))] [] n K (zw J) L R := by
  have hL32 := hSc.2.2.2
  have hcs : cells ≤ room_1.cells ∧ slots ≤ room_1.slots := ⟨by show cells ≤ 600000; omega, by show slots ≤ 7302250; omega⟩
  have hy := hI.1
  obtain ⟨c, m, s, hM, hS⟩ := hI.2.2.2.2.2.1
  obtain ⟨a1, x1, y1, e1⟩ := ix_cases (xs (i + 1))
  refine w_aload_n (pc2 := 505) C dL_law_504 rfl rfl ?_
  refine w_aload_nx (pc2 := 506) C dL_law_505 rfl rfl ?_
  refine w_iload_n (pc2 := 507) C dL_law_506 rfl rfl ?_
  refine w_iconst (pc2 := 508) (v := iI 1) C dL_law_507 (by decide) rfl ?_
  refine z_iadd (pc2 := 509) C dL_law_508 rfl ?_
  -- at 509: .iaload
  refine w_sld (pc2 := 510) (j := i + 1) C hSc dL_law_509 (by omega) (by omega) rfl ?_
  rw [e1]
  refine w_cVi (pc2 := 513)  C dL_law_510 mb_L_75 mv_X10_sounds (s_X10_sounds hy hM.mus hM.tai ⟨x1, y1⟩) (by first | exact hy.k _ | assumption | rfl | ((try simp only [kM, kTo, kSc, nK]); (repeat rw [up1_n _ _ _ (by omega)]); first | assumption | exact up1_s _ _ _)) rfl (by decide) rfl rfl (Nat.le_of_ble_eq_true rfl) ⟨by decide, by decide⟩ ⟨rfl, rfl⟩ hcs rfl ?_
  refine w_aload_n (pc2 := 514) C dL_law_513 rfl rfl ?_
  refine w_aload_nx (pc2 := 515) C dL_law_514 rfl rfl ?_
  refine w_iload_n (pc2 := 516) C dL_law_515 rfl rfl ?_
  refine w_iconst (pc2 := 517) (v := iI 1) C dL_law_516 (by decide) rfl ?_
  refine z_iadd (pc2 := 518) C dL_law_517 rfl ?_
  -- at 518: .iaload
  refine w_sld (pc2 := 519) (j := i + 1) C hSc dL_law_518 (by omega) (by omega) rfl ?_
  rw [e1]
  refine w_cVi (pc2 := 522)  C dL_law_519 mb_L_78 mv_X11_sounds (s_X11_sounds hy hM.mur hM.tar ⟨x1, y1⟩) (by first | exact hy.k _ | assumption | rfl | ((try simp only [kM, kTo, kSc, nK]); (repeat rw [up1_n _ _ _ (by omega)]); first | assumption | exact up1_s _ _ _)) rfl (by decide) rfl rfl (Nat.le_of_ble_eq_true rfl) ⟨by decide, by decide⟩ ⟨rfl, rfl⟩ hcs rfl ?_
  refine w_icmp_eq (pc2 := 525) (tgt := 762) C dL_law_522 (by decide) rfl (fun _ => ?_) (fun h => absurd ?_ h)
  · exact nx.lo hI
  · by_cases h0 : 0 ≤ a1 ∧ a1 < (c : Int)
    · rw [if_pos h0, if_pos h0, snd_eq hM.smu hM.same hM.tls (by omega)]
    · rw [if_neg h0, if_neg h0]

end CASES2
