/-! ===== the law's loop ===== -/
section LOOP
theorem law_loop {Γ : Gm} {Q : State → Prop} {b Ls : Nat} {xs : Nat → Int32} (C : C_L Γ) (hSc : ScA Γ b Ls xs) (hE : ∀ (cells slots : Nat) (lo : List (Option Value)) (n : Nat) (K : wKd) (I : wIn) (L : wLn) (R : wRf), cells ≤ 600000 → slots ≤ 7302250 → wp Γ cells slots Q 769 lo [.int (iI 1)] n K I L R) : ∀ (d i cells slots n : Nat) (K : wKd) (J : wJn) (L : wLn) (R : wRf), Ls ≤ i + 6 * d + 5 → i ≤ 4000 → cells + 12 * d ≤ 600000 → slots + 569 * d ≤ 7302250 → Inv n K J L R → wp Γ cells slots Q 18 [some (.retAddr b), some (.ref 0), some (.ref 34), some (.int (iI (i : Int)))] [] n K (zw J) L R := by
  have hL32 := hSc.2.2.2
  intro d
  induction d with
  | zero =>
    intro i cells slots n K J L R hd hi4 hc hs hI
    refine w_iload_n (pc2 := 19) C dL_law_18 rfl rfl ?_
    refine w_aload_nx (pc2 := 20) C dL_law_19 rfl rfl ?_
    refine w_slen (pc2 := 21) C hSc dL_law_20 rfl ?_
    refine w_bipush (pc2 := 23) (v := iI 6) C dL_law_21 (by decide) rfl ?_
    refine z_isub (pc2 := 24) C dL_law_23 rfl ?_
    -- at 24: .if_icmp .gt 744
    refine z_icmp_gt (pc2 := 27) (tgt := 768) C dL_law_24 (by decide) rfl (by omega) (by omega) (fun g1 => ?_) (fun g1 => ?_)
    · skip
      refine w_iconst (pc2 := 769) (v := iI 1) C dL_law_768 (by decide) rfl ?_
      -- at 769: .ireturn
      exact hE _ _ _ _ _ _ _ _ (by omega) (by omega)
    · exact absurd g1 (by omega)
  | succ d ih =>
    intro i cells slots n K J L R hd hi4 hc hs hI
    refine w_iload_n (pc2 := 19) C dL_law_18 rfl rfl ?_
    refine w_aload_nx (pc2 := 20) C dL_law_19 rfl rfl ?_
    refine w_slen (pc2 := 21) C hSc dL_law_20 rfl ?_
    refine w_bipush (pc2 := 23) (v := iI 6) C dL_law_21 (by decide) rfl ?_
    refine z_isub (pc2 := 24) C dL_law_23 rfl ?_
    -- at 24: .if_icmp .gt 744
    refine z_icmp_gt (pc2 := 27) (tgt := 768) C dL_law_24 (by decide) rfl (by omega) (by omega) (fun g1 => ?_) (fun g1 => ?_)
    · skip
      refine w_iconst (pc2 := 769) (v := iI 1) C dL_law_768 (by decide) rfl ?_
      -- at 769: .ireturn
      exact hE _ _ _ _ _ _ _ _ (by omega) (by omega)
    · have hi : i + 6 ≤ Ls := by omega
      have hc2 : cells + 12 ≤ 600000 ∧ slots + 569 ≤ 7302250 := by omega
      have nx : Nx Γ Q b i cells slots := by
        intro n2 K2 J2 L2 R2 hI2
        refine w_iinc (pc2 := 765) C dL_law_762 rfl (iI_add _ _) rfl (by decide) rfl rfl ?_
        try dsimp only [List.set]
        refine w_goto (tgt := 18) C dL_law_765 (by decide) ?_
        -- at 18: .iload_n 3
        rw [show ((i : Int) + 6) = ((i + 6 : Nat) : Int) by omega]
        exact ih (i + 6) _ _ n2 K2 J2 L2 R2 (by omega) (by omega) (by omega) (by omega) hI2
      refine w_aload_nx (pc2 := 28) C dL_law_27 rfl rfl ?_
      refine w_iload_n (pc2 := 29) C dL_law_28 rfl rfl ?_
      -- at 29: .iaload
      refine w_sld (pc2 := 30) (j := i) C hSc dL_law_29 (by omega) (by omega) rfl ?_
      refine w_bipush (pc2 := 32) (v := iI 31) C dL_law_30 (by decide) rfl ?_
      refine w_iand (pc2 := 33) C dL_law_32 rfl ?_
      -- at 33: .tableswitch 729 0 25 #[119, 182, 205, 218, 241, 274, 297, 330, 343, 356, 379, 402, 435, 458, 471, 494, 517, 530, 543, 576, 589, 612, 636, 660, 683, 706]
      have hv := and_bd (xs i) (k := 31) (by omega)
      rw [show iI ((31 : Nat) : Int) = iI 31 from rfl] at hv
      generalize (xs i &&& iI 31) = x at hv ⊢
      have hcase : x.toInt = 0 ∨ x.toInt = 1 ∨ x.toInt = 2 ∨ x.toInt = 3 ∨ x.toInt = 4 ∨ x.toInt = 5 ∨ x.toInt = 6 ∨ x.toInt = 7 ∨ x.toInt = 8 ∨ x.toInt = 9 ∨ x.toInt = 10 ∨ x.toInt = 11 ∨ x.toInt = 12 ∨ x.toInt = 13 ∨ x.toInt = 14 ∨ x.toInt = 15 ∨ x.toInt = 16 ∨ x.toInt = 17 ∨ x.toInt = 18 ∨ x.toInt = 19 ∨ x.toInt = 20 ∨ x.toInt = 21 ∨ x.toInt = 22 ∨ x.toInt = 23 ∨ x.toInt = 24 ∨ x.toInt = 25 ∨ 25 < x.toInt := by omega
      rcases hcase with hk | hk | hk | hk | hk | hk | hk | hk | hk | hk | hk | hk | hk | hk | hk | hk | hk | hk | hk | hk | hk | hk | hk | hk | hk | hk | hk
      · exact w_tableIn (off := 119) (tgt := 152) C dL_law_33 (by omega) (by omega) (by rw [hk]; rfl) (by decide) (lc_feed C hSc hi hc2 hI nx)
      · exact w_tableIn (off := 182) (tgt := 215) C dL_law_33 (by omega) (by omega) (by rw [hk]; rfl) (by decide) (lc_end C hSc hi hc2 hI nx)
      · exact w_tableIn (off := 205) (tgt := 238) C dL_law_33 (by omega) (by omega) (by rw [hk]; rfl) (by decide) (lc_score C hSc hi hc2 hI nx)
      · exact w_tableIn (off := 218) (tgt := 251) C dL_law_33 (by omega) (by omega) (by rw [hk]; rfl) (by decide) (lc_fault C hSc hi hc2 hI nx)
      · exact w_tableIn (off := 241) (tgt := 274) C dL_law_33 (by omega) (by omega) (by rw [hk]; rfl) (by decide) (lc_strike C hSc hi hc2 hI nx)
      · exact w_tableIn (off := 274) (tgt := 307) C dL_law_33 (by omega) (by omega) (by rw [hk]; rfl) (by decide) (lc_count C hSc hi hc2 hI nx)
      · exact w_tableIn (off := 297) (tgt := 330) C dL_law_33 (by omega) (by omega) (by rw [hk]; rfl) (by decide) (lc_fists C hSc hi hc2 hI nx)
      · exact w_tableIn (off := 330) (tgt := 363) C dL_law_33 (by omega) (by omega) (by rw [hk]; rfl) (by decide) (lc_cost C hSc hi hc2 hI nx)
      · exact w_tableIn (off := 343) (tgt := 376) C dL_law_33 (by omega) (by omega) (by rw [hk]; rfl) (by decide) (lc_need C hSc hi hc2 hI nx)
      · exact w_tableIn (off := 356) (tgt := 389) C dL_law_33 (by omega) (by omega) (by rw [hk]; rfl) (by decide) (lc_by C hSc hi hc2 hI nx)
      · exact w_tableIn (off := 379) (tgt := 412) C dL_law_33 (by omega) (by omega) (by rw [hk]; rfl) (by decide) (lc_way C hSc hi hc2 hI nx)
      · exact w_tableIn (off := 402) (tgt := 435) C dL_law_33 (by omega) (by omega) (by rw [hk]; rfl) (by decide) (lc_tail C hSc hi hc2 hI nx)
      · exact w_tableIn (off := 435) (tgt := 468) C dL_law_33 (by omega) (by omega) (by rw [hk]; rfl) (by decide) (lc_quarrel C hSc hi hc2 hI nx)
      · exact w_tableIn (off := 458) (tgt := 491) C dL_law_33 (by omega) (by omega) (by rw [hk]; rfl) (by decide) (lc_quarrels C hSc hi hc2 hI nx)
      · exact w_tableIn (off := 471) (tgt := 504) C dL_law_33 (by omega) (by omega) (by rw [hk]; rfl) (by decide) (lc_sounds C hSc hi hc2 hI nx)
      · exact w_tableIn (off := 494) (tgt := 527) C dL_law_33 (by omega) (by omega) (by rw [hk]; rfl) (by decide) (lc_drum C hSc hi hc2 hI nx)
      · exact w_tableIn (off := 517) (tgt := 550) C dL_law_33 (by omega) (by omega) (by rw [hk]; rfl) (by decide) (lc_change C hSc hi hc2 hI nx)
      · exact w_tableIn (off := 530) (tgt := 563) C dL_law_33 (by omega) (by omega) (by rw [hk]; rfl) (by decide) (lc_turn C hSc hi hc2 hI nx)
      · exact w_tableIn (off := 543) (tgt := 576) C dL_law_33 (by omega) (by omega) (by rw [hk]; rfl) (by decide) (lc_pin C hSc hi hc2 hI nx)
      · exact w_tableIn (off := 576) (tgt := 609) C dL_law_33 (by omega) (by omega) (by rw [hk]; rfl) (by decide) (lc_pins C hSc hi hc2 hI nx)
      · exact w_tableIn (off := 589) (tgt := 622) C dL_law_33 (by omega) (by omega) (by rw [hk]; rfl) (by decide) (lc_play C hSc hi hc2 hI nx)
      · exact w_tableIn (off := 612) (tgt := 645) C dL_law_33 (by omega) (by omega) (by rw [hk]; rfl) (by decide) (lc_strikes C hSc hi hc2 hI nx)
      · exact w_tableIn (off := 636) (tgt := 669) C dL_law_33 (by omega) (by omega) (by rw [hk]; rfl) (by decide) (lc_mend C hSc hi hc2 hI nx)
      · exact w_tableIn (off := 660) (tgt := 693) C dL_law_33 (by omega) (by omega) (by rw [hk]; rfl) (by decide) (lc_worn C hSc hi hc2 hI nx)
      · exact w_tableIn (off := 683) (tgt := 716) C dL_law_33 (by omega) (by omega) (by rw [hk]; rfl) (by decide) (lc_image C hSc hi hc2 hI nx)
      · exact w_tableIn (off := 706) (tgt := 739) C dL_law_33 (by omega) (by omega) (by rw [hk]; rfl) (by decide) (lc_back C hSc hi hc2 hI nx)
      · exact w_tableOut (tgt := 762) C dL_law_33 (Or.inr hk) (by decide) (nx.lo hI)
end LOOP
/-! ===== the two objects, just made ===== -/
theorem d0_o {k : Nat} (h : k < 202 ∨ k = 231 ∨ 233 ≤ k) : d0 k = 0 := by
  unfold d0
  rw [if_neg (by omega), if_neg (by omega), if_neg (by omega), if_neg (by omega), if_neg (by omega), if_neg (by omega), if_neg (by omega)]
theorem d0_t {k : Nat} (h : k < 24) : d0 (204 + k) = 8 := by
  unfold d0
  rw [if_neg (by omega), if_neg (by omega), if_pos (by omega)]
theorem init_inv {K K4 K5 : wKd} {J J4 J5 : wJn} {L L4 L5 : wLn} {R R4 R5 : wRf} (hD : Dsk K J L R) (hK : ∀ i, i < 34 → K4 i = K i) (hJ : ∀ i, i < 34 → J4 i = J i) (hL : ∀ i, i < 34 → L4 i = L i) (hR : ∀ i, i < 34 → R4 i = R i) (hM : Mdl K4 K5 J4 J5 L4 L5 R4 R5) : Inv 48 K5 J5 L5 R5 := by
  obtain ⟨q1, q2, q3, q4, q5, q6, q7, q8, q9, q10, q11⟩ := hD
  obtain ⟨m1, m2, m3, m4, m5, m6, m7⟩ := hM
  have eK : ∀ i, i < 34 → K5 i = K i := fun i hi => by rw [(m1 i hi).1]; exact hK i hi
  have eJ : ∀ i, i < 34 → J5 i = J i := fun i hi => by rw [(m1 i hi).2.1]; exact hJ i hi
  have eL : ∀ i, i < 34 → L5 i = L i := fun i hi => by rw [(m1 i hi).2.2.1]; exact hL i hi
  have eR : ∀ i, i < 34 → R5 i = R i := fun i hi => by rw [(m1 i hi).2.2.2]; exact hR i hi
  have r23 : ∀ j, j < 2 → R5 23 j = none := fun j hj => by
    rw [eR 23 (by omega)]
    rcases Nat.eq_zero_or_pos j with e | e
    · subst e; exact q3.1
    · rw [show j = 1 by omega]; exact q3.2
  refine ⟨⟨fun i hi => ?_, fun i hi k => ?_⟩, by omega, fun j b hj hb => ?_, fun b0 b1 h0 h1 => ?_, ⟨0, by omega, by rw [eJ 1 (by omega)]; exact q5, m5, fun p hp => absurd hp (by omega)⟩, ⟨0, 0, 64, ⟨⟨?_, ?_, ?_, ?_, ?_⟩, ⟨?_, ?_, ?_, ?_⟩, ⟨?_, ?_⟩, ⟨⟨?_, ?_, ?_, ?_, ?_, ?_⟩, ?_, ?_, ?_, ?_⟩, ⟨?_, ?_⟩, ?_⟩, SetOK.no (by rw [eJ 0 (by omega)]; exact q4)⟩, fun j hj => Or.inl ⟨r23 j hj, m6 j⟩⟩
  · rcases Nat.lt_or_ge i 34 with z | z
    · rw [eK i z]; exact q1 i z
    · exact m2 i ⟨z, hi⟩
  · rcases Nat.lt_or_ge i 34 with z | z
    · rw [eR i z]; exact q2 i ⟨z, hi.2⟩ k
    · exact m3 i ⟨z, hi.1⟩ k
  · rw [r23 j hj] at hb; cases hb
  · rw [r23 0 (by omega)] at h0; cases h0
  · exact ⟨by omega, fun i hi => absurd hi (by omega), fun i j _ hj => absurd hj (by omega)⟩
  · show J5 12 2 = ((0 : Nat) : Int); rw [eJ 12 (by omega)]; exact q7.1
  · rw [m4]; exact d0_o (by omega)
  · show J5 35 1 = J5 12 3; rw [m4, d0_o (by omega), eJ 12 (by omega), q7.2]
  · intro i hi; exact absurd hi (by omega)
  · show 1 ≤ J5 11 6 ∧ J5 11 6 ≤ 24; rw [eJ 11 (by omega), q6.2.2.1]; decide
  · show 0 ≤ J5 11 7 ∧ J5 11 7 ≤ 10000; rw [eJ 11 (by omega), q6.2.2.2]; decide
  · show J5 35 202 = J5 11 6; rw [m4, eJ 11 (by omega), q6.2.2.1]; rfl
  · show J5 35 203 = J5 11 7; rw [m4, eJ 11 (by omega), q6.2.2.2]; rfl
  · intro i hi
    show (1 ≤ J5 16 i ∧ J5 16 i ≤ 60) ∧ J5 35 (204 + i) = J5 16 i
    rw [eJ 16 (by omega), q8 i hi, m4, d0_t hi]; decide
  · show J5 35 228 = J5 15 1; rw [m4, eJ 15 (by omega), q9]; rfl
  · show J5 18 2 = ((0 : Nat) : Int); rw [eJ 18 (by omega)]; exact q10.1
  · omega
  · show J5 18 3 = ((64 : Nat) : Int); rw [eJ 18 (by omega)]; exact q10.2.1
  · omega
  · omega
  · intro p hp; exact absurd hp (by omega)
  · intro p q _ hq; exact absurd hq (by omega)
  · rw [m4]; rfl
  · show J5 35 230 = J5 18 4; rw [m4, eJ 18 (by omega), q10.2.2]; rfl
  · intro i hi
    rw [m4, d0_o (by omega)]; rfl
  · show J5 35 231 = J5 11 4; rw [m4, eJ 11 (by omega), q6.1]; rfl
  · show J5 35 232 = J5 11 5; rw [m4, eJ 11 (by omega), q6.2.1]; rfl
  · intro k hk
    show L5 36 k = L5 22 k
    rw [m7, eL 22 (by omega), q11]
section START
theorem law_start {Γ : Gm} {Q : State → Prop} {b Ls : Nat} {xs : Nat → Int32} (C : C_L Γ) (hSc : ScA Γ b Ls xs) (hE : ∀ (cells slots : Nat) (lo : List (Option Value)) (n : Nat) (K : wKd) (I : wIn) (L : wLn) (R : wRf), cells ≤ 600000 → slots ≤ 7302250 → wp Γ cells slots Q 769 lo [.int (iI 1)] n K I L R) : wp Γ 0 0 Q 0 [some (.retAddr b), none, none, none] [] 0 (fun _ => (999, 0)) (zw (fun _ _ => 0)) (fun _ _ => 0) (fun _ _ => none) := by
  have hL32 := hSc.2.2.2
  refine z_new (pc2 := 3) C dL_law_0 nw_L_7 (by decide) (by decide) rfl ?_
  refine w_dup (pc2 := 4) C dL_law_3 rfl rfl ?_
  -- at 4: .invokespecial 9
  refine w_callI (pc2 := 7) C dL_law_4 mb_L_9 mi_X10_init (s_X10_init (up1_s _ _ _) (fun k => by rw [up1_s])) rfl rfl (Nat.le_of_ble_eq_true rfl) ⟨by decide, by decide⟩ ⟨by decide, by decide⟩ rfl ?_
  rintro r2 n2 K2 I2 L2 R2 ⟨K3, J3, L3, R3, hD, hDk⟩
  obtain ⟨d1, d2, d3, d4, d5, d6⟩ := hD
  replace d2 := d2.symm
  replace d3 := d3.symm
  replace d5 := d5.symm
  replace d6 := d6.symm
  subst d1
  subst d2
  subst d3
  subst d4
  subst d5
  subst d6
  refine w_astore_n (pc2 := 8) C dL_law_7 rfl (by decide) rfl rfl ?_
  try dsimp only [List.set]
  refine z_new (pc2 := 11) C dL_law_8 nw_L_10 (by decide) (by decide) rfl ?_
  refine w_dup (pc2 := 12) C dL_law_11 rfl rfl ?_
  -- at 12: .invokespecial 12
  refine w_callI (pc2 := 15) C dL_law_12 mb_L_12 mi_X11_init (s_X11_init (up1_s _ _ _) (fun k => by rw [up1_s]) (fun k => by rw [up1_s])) rfl rfl (Nat.le_of_ble_eq_true rfl) ⟨by decide, by decide⟩ ⟨by decide, by decide⟩ rfl ?_
  rintro r2 n2 K2 I2 L2 R2 ⟨K5, J5, L5, R5, hD, hMd⟩
  obtain ⟨d1, d2, d3, d4, d5, d6⟩ := hD
  replace d2 := d2.symm
  replace d3 := d3.symm
  replace d5 := d5.symm
  replace d6 := d6.symm
  subst d1
  subst d2
  subst d3
  subst d4
  subst d5
  subst d6
  refine w_astore_n (pc2 := 16) C dL_law_15 rfl (by decide) rfl rfl ?_
  try dsimp only [List.set]
  refine w_iconst (pc2 := 17) (v := iI 0) C dL_law_16 (by decide) rfl ?_
  refine w_istore_n (pc2 := 18) C dL_law_17 rfl (by decide) rfl rfl ?_
  try dsimp only [List.set]
  -- at 18: .iload_n 3
  have hI : Inv 48 K5 J5 L5 R5 := init_inv hDk (fun i hi => up1_n _ _ _ (by omega)) (fun i hi => up1_n _ _ _ (by omega)) (fun i hi => up1_n _ _ _ (by omega)) (fun i hi => up1_n _ _ _ (by omega)) hMd
  exact law_loop C hSc hE 512 0 _ _ 48 K5 J5 L5 R5 (by omega) (by omega) (by decide) (by decide) hI
end START
