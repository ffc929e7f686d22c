section CASES3
theorem lc_drum {Γ : Gm} {Q : State → Prop} {cells slots n i b Ls : Nat} {xs : Nat → Int32} {K : wKd} {J : wJn} {L : wLn} {R : wRf} (C : C_L Γ) (hSc : ScA Γ b Ls xs) (hi : i + 6 ≤ Ls) (hc2 : cells + 12 ≤ 600000 ∧ slots + 569 ≤ 7302250) (hI : Inv n K J L R) (nx : Nx Γ Q b i cells slots) : wp Γ cells slots Q 527 [some (.retAddr b), some (.ref 0), some (.ref 34), some (.int (iI (i : Int)))] [] n K (zw J) L R := by
  have hL32 := hSc.2.2.2
  have hcs : cells ≤ room_1.cells ∧ slots ≤ room_1.slots := ⟨by show cells ≤ 600000; omega, by show slots ≤ 7302250; omega⟩
  have hy := hI.1
  obtain ⟨c, m, s, hM, hS⟩ := hI.2.2.2.2.2.1
  obtain ⟨a1, x1, y1, e1⟩ := ix_cases (xs (i + 1))
  by_cases hc : 1 ≤ a1 ∧ a1 ≤ 2063
  · skip
    refine w_aload_n (pc2 := 528) C dL_law_527 rfl rfl ?_
    refine w_aload_nx (pc2 := 529) C dL_law_528 rfl rfl ?_
    refine w_iload_n (pc2 := 530) C dL_law_529 rfl rfl ?_
    refine w_iconst (pc2 := 531) (v := iI 1) C dL_law_530 (by decide) rfl ?_
    refine z_iadd (pc2 := 532) C dL_law_531 rfl ?_
    -- at 532: .iaload
    refine w_sld (pc2 := 533) (j := i + 1) C hSc dL_law_532 (by omega) (by omega) rfl ?_
    rw [e1]
    refine w_cVi (pc2 := 536)  C dL_law_533 mb_L_79 mv_X10_drum (s_X10_drum hy ⟨x1, y1⟩) (by first | exact hy.k _ | assumption | rfl | ((try simp only [kM, kTo, kSc, nK]); (repeat rw [up1_n _ _ _ (by omega)]); first | assumption | exact up1_s _ _ _)) rfl (by decide) rfl rfl (Nat.le_of_ble_eq_true rfl) ⟨by decide, by decide⟩ ⟨rfl, rfl⟩ hcs rfl ?_
    rw [if_pos hc, if_pos hc]
    refine w_aload_n (pc2 := 537) C dL_law_536 rfl rfl ?_
    refine w_aload_nx (pc2 := 538) C dL_law_537 rfl rfl ?_
    refine w_iload_n (pc2 := 539) C dL_law_538 rfl rfl ?_
    refine w_iconst (pc2 := 540) (v := iI 1) C dL_law_539 (by decide) rfl ?_
    refine z_iadd (pc2 := 541) C dL_law_540 rfl ?_
    -- at 541: .iaload
    refine w_sld (pc2 := 542) (j := i + 1) C hSc dL_law_541 (by omega) (by omega) rfl ?_
    rw [e1]
    refine w_cVi (pc2 := 545)  C dL_law_542 mb_L_82 mv_X11_drum (s_X11_drum hy ⟨x1, y1⟩) (by first | exact hy.k _ | assumption | rfl | ((try simp only [kM, kTo, kSc, nK]); (repeat rw [up1_n _ _ _ (by omega)]); first | assumption | exact up1_s _ _ _)) rfl (by decide) rfl rfl (Nat.le_of_ble_eq_true rfl) ⟨by decide, by decide⟩ ⟨rfl, rfl⟩ hcs rfl ?_
    rw [if_pos hc, if_pos hc]
    refine w_icmp_eq (pc2 := 548) (tgt := 762) C dL_law_545 (by decide) rfl (fun _ => ?_) (fun h => absurd ?_ h)
    · have e : a1 = ((a1.toNat : Nat) : Int) := by omega
      have := drum_inv hI (a := a1.toNat) (by omega)
      rw [← e] at this
      exact nx.lo this
    · rfl
  · skip
    refine w_aload_n (pc2 := 528) C dL_law_527 rfl rfl ?_
    refine w_aload_nx (pc2 := 529) C dL_law_528 rfl rfl ?_
    refine w_iload_n (pc2 := 530) C dL_law_529 rfl rfl ?_
    refine w_iconst (pc2 := 531) (v := iI 1) C dL_law_530 (by decide) rfl ?_
    refine z_iadd (pc2 := 532) C dL_law_531 rfl ?_
    -- at 532: .iaload
    refine w_sld (pc2 := 533) (j := i + 1) C hSc dL_law_532 (by omega) (by omega) rfl ?_
    rw [e1]
    refine w_cVi (pc2 := 536)  C dL_law_533 mb_L_79 mv_X10_drum (s_X10_drum hy ⟨x1, y1⟩) (by first | exact hy.k _ | assumption | rfl | ((try simp only [kM, kTo, kSc, nK]); (repeat rw [up1_n _ _ _ (by omega)]); first | assumption | exact up1_s _ _ _)) rfl (by decide) rfl rfl (Nat.le_of_ble_eq_true rfl) ⟨by decide, by decide⟩ ⟨rfl, rfl⟩ hcs rfl ?_
    rw [if_neg hc, if_neg hc]
    refine w_aload_n (pc2 := 537) C dL_law_536 rfl rfl ?_
    refine w_aload_nx (pc2 := 538) C dL_law_537 rfl rfl ?_
    refine w_iload_n (pc2 := 539) C dL_law_538 rfl rfl ?_
    refine w_iconst (pc2 := 540) (v := iI 1) C dL_law_539 (by decide) rfl ?_
    refine z_iadd (pc2 := 541) C dL_law_540 rfl ?_
    -- at 541: .iaload
    refine w_sld (pc2 := 542) (j := i + 1) C hSc dL_law_541 (by omega) (by omega) rfl ?_
    rw [e1]
    refine w_cVi (pc2 := 545)  C dL_law_542 mb_L_82 mv_X11_drum (s_X11_drum hy ⟨x1, y1⟩) (by first | exact hy.k _ | assumption | rfl | ((try simp only [kM, kTo, kSc, nK]); (repeat rw [up1_n _ _ _ (by omega)]); first | assumption | exact up1_s _ _ _)) rfl (by decide) rfl rfl (Nat.le_of_ble_eq_true rfl) ⟨by decide, by decide⟩ ⟨rfl, rfl⟩ hcs rfl ?_
    rw [if_neg hc, if_neg hc]
    refine w_icmp_eq (pc2 := 548) (tgt := 762) C dL_law_545 (by decide) rfl (fun _ => ?_) (fun h => absurd ?_ h)
    · exact nx.lo hI
    · rfl

theorem lc_change {Γ : Gm} {Q : State → Prop} {cells slots n i b Ls : Nat} {xs : Nat → Int32} {K : wKd} {J : wJn} {L : wLn} {R : wRf} (C : C_L Γ) (hSc : ScA Γ b Ls xs) (hi : i + 6 ≤ Ls) (hc2 : cells + 12 ≤ 600000 ∧ slots + 569 ≤ 7302250) (hI : Inv n K J L R) (nx : Nx Γ Q b i cells slots) : wp Γ cells slots Q 550 [some (.retAddr b), some (.ref 0), some (.ref 34), some (.int (iI (i : Int)))] [] n K (zw J) L R := by
  have hL32 := hSc.2.2.2
  have hcs : cells ≤ room_1.cells ∧ slots ≤ room_1.slots := ⟨by show cells ≤ 600000; omega, by show slots ≤ 7302250; omega⟩
  have hy := hI.1
  obtain ⟨c, m, s, hM, hS⟩ := hI.2.2.2.2.2.1
  have hp := hM.pin
  have hsm := hM.smu
  have hso : ∀ i, i < c → J 13 i ≤ J 13 (c - 1) := fun i hi => by
    by_cases e : i = c - 1
    · subst e; omega
    · have := hsm.2.2 i (c - 1) (by omega) (by omega)
      omega
  by_cases hc : c = 0 ∨ J 13 (c - 1) < (s : Int)
  · have hts : ∀ i, i < c → J 13 i < (s : Int) := fun i hi => by
      have := hso i hi
      omega
    obtain ⟨f1, f2, f3⟩ := find_eq hsm hM.same hp hM.pq hts
    have e35 : chgJ J c m s 35 = J 35 := chg_row (by decide) (by decide) (by decide) (by decide) (by decide)
    have et : tR (chgJ J c m s) = tR J := by
      funext k
      show chgJ J c m s 35 (2 + k) = J 35 (2 + k)
      rw [e35]
    have eb : bR (chgJ J c m s) = bR J := by
      funext k
      show chgJ J c m s 35 (102 + k) = J 35 (102 + k)
      rw [e35]
    refine w_aload_n (pc2 := 551) C dL_law_550 rfl rfl ?_
    -- at 551: .invokevirtual 83
    refine w_cVi (pc2 := 554)  C dL_law_551 mb_L_83 mv_X10_change (s_X10_change hy hM.mus hp hso) (by first | exact hy.k _ | assumption | rfl | ((try simp only [kM, kTo, kSc, nK]); (repeat rw [up1_n _ _ _ (by omega)]); first | assumption | exact up1_s _ _ _)) rfl (by decide) rfl rfl (Nat.le_of_ble_eq_true rfl) ⟨by decide, by decide⟩ ⟨rfl, rfl⟩ hcs rfl ?_
    rw [if_pos hc, if_pos hc]
    refine w_aload_n (pc2 := 555) C dL_law_554 rfl rfl ?_
    -- at 555: .invokevirtual 86
    refine w_gV (pc2 := 558)  C dL_law_555 mb_L_86 mv_X11_change (s_X11_change hy (c := c) (s := s) (pm := pmJ J m) (by unfold MuR; rw [e35]; exact hM.mur) (by unfold PnR; rw [e35]; exact hM.pnr) (fun k hk => by rw [et, (hM.same k hk).1]; exact hts k hk)) (by first | exact hy.k _ | assumption | rfl | ((try simp only [kM, kTo, kSc, nK]); (repeat rw [up1_n _ _ _ (by omega)]); first | assumption | exact up1_s _ _ _)) rfl (by decide) rfl rfl (Nat.le_of_ble_eq_true rfl) ⟨by decide, by decide⟩ ⟨rfl, rfl⟩ hcs rfl ?_
    rintro r2 n2 K2 I2 L2 R2 ⟨J2, hD, hT⟩
    obtain ⟨d1, d2, d3, d4, d5, d6⟩ := hD
    replace d2 := d2.symm
    replace d3 := d3.symm
    replace d5 := d5.symm
    replace d6 := d6.symm
    subst d1
    subst d2
    subst d3
    subst d4
    subst d5
    subst d6
    rw [et, eb] at hT
    refine w_icmp_eq (pc2 := 561) (tgt := 762) C dL_law_558 (by decide) rfl (fun _ => ?_) (fun h => absurd ?_ h)
    · exact nx.lo (change_inv hI hM hts f1 f3 hT)
    · rw [f2, et, eb]
  · skip
    refine w_aload_n (pc2 := 551) C dL_law_550 rfl rfl ?_
    -- at 551: .invokevirtual 83
    refine w_cVi (pc2 := 554)  C dL_law_551 mb_L_83 mv_X10_change (s_X10_change hy hM.mus hp hso) (by first | exact hy.k _ | assumption | rfl | ((try simp only [kM, kTo, kSc, nK]); (repeat rw [up1_n _ _ _ (by omega)]); first | assumption | exact up1_s _ _ _)) rfl (by decide) rfl rfl (Nat.le_of_ble_eq_true rfl) ⟨by decide, by decide⟩ ⟨rfl, rfl⟩ hcs rfl ?_
    rw [if_neg hc, if_neg hc]
    refine w_aload_n (pc2 := 555) C dL_law_554 rfl rfl ?_
    -- at 555: .invokevirtual 86
    refine w_cVi (pc2 := 558)  C dL_law_555 mb_L_86 mv_X11_change (s_X11_change0 hy (k := c - 1) (s := s) hM.mur hM.pnr.1 hM.pnr.2.2.1 (by omega) (by rw [(hM.same (c - 1) (by omega)).1]; omega)) (by first | exact hy.k _ | assumption | rfl | ((try simp only [kM, kTo, kSc, nK]); (repeat rw [up1_n _ _ _ (by omega)]); first | assumption | exact up1_s _ _ _)) rfl (by decide) rfl rfl (Nat.le_of_ble_eq_true rfl) ⟨by decide, by decide⟩ ⟨rfl, rfl⟩ hcs rfl ?_
    refine w_icmp_eq (pc2 := 561) (tgt := 762) C dL_law_558 (by decide) rfl (fun _ => ?_) (fun h => absurd ?_ h)
    · exact nx.lo hI
    · rfl

theorem lc_turn {Γ : Gm} {Q : State → Prop} {cells slots n i b Ls : Nat} {xs : Nat → Int32} {K : wKd} {J : wJn} {L : wLn} {R : wRf} (C : C_L Γ) (hSc : ScA Γ b Ls xs) (hi : i + 6 ≤ Ls) (hc2 : cells + 12 ≤ 600000 ∧ slots + 569 ≤ 7302250) (hI : Inv n K J L R) (nx : Nx Γ Q b i cells slots) : wp Γ cells slots Q 563 [some (.retAddr b), some (.ref 0), some (.ref 34), some (.int (iI (i : Int)))] [] n K (zw J) L R := by
  have hL32 := hSc.2.2.2
  have hcs : cells ≤ room_1.cells ∧ slots ≤ room_1.slots := ⟨by show cells ≤ 600000; omega, by show slots ≤ 7302250; omega⟩
  have hy := hI.1
  obtain ⟨c, m, s, hM, hS⟩ := hI.2.2.2.2.2.1
  refine w_aload_n (pc2 := 564) C dL_law_563 rfl rfl ?_
  -- at 564: .invokevirtual 87
  refine w_cVi (pc2 := 567)  C dL_law_564 mb_L_87 mv_X10_turn (s_X10_turn hy) (by first | exact hy.k _ | assumption | rfl | ((try simp only [kM, kTo, kSc, nK]); (repeat rw [up1_n _ _ _ (by omega)]); first | assumption | exact up1_s _ _ _)) rfl (by decide) rfl rfl (Nat.le_of_ble_eq_true rfl) ⟨by decide, by decide⟩ ⟨rfl, rfl⟩ hcs rfl ?_
  refine w_aload_n (pc2 := 568) C dL_law_567 rfl rfl ?_
  -- at 568: .invokevirtual 90
  refine w_cVi (pc2 := 571)  C dL_law_568 mb_L_90 mv_X11_turn (s_X11_turn hy) (by first | exact hy.k _ | assumption | rfl | ((try simp only [kM, kTo, kSc, nK]); (repeat rw [up1_n _ _ _ (by omega)]); first | assumption | exact up1_s _ _ _)) rfl (by decide) rfl rfl (Nat.le_of_ble_eq_true rfl) ⟨by decide, by decide⟩ ⟨rfl, rfl⟩ hcs rfl ?_
  refine w_icmp_eq (pc2 := 574) (tgt := 762) C dL_law_571 (by decide) rfl (fun _ => ?_) (fun h => absurd ?_ h)
  · exact nx.lo hI
  · rw [hM.e230]

theorem lc_pin {Γ : Gm} {Q : State → Prop} {cells slots n i b Ls : Nat} {xs : Nat → Int32} {K : wKd} {J : wJn} {L : wLn} {R : wRf} (C : C_L Γ) (hSc : ScA Γ b Ls xs) (hi : i + 6 ≤ Ls) (hc2 : cells + 12 ≤ 600000 ∧ slots + 569 ≤ 7302250) (hI : Inv n K J L R) (nx : Nx Γ Q b i cells slots) : wp Γ cells slots Q 576 [some (.retAddr b), some (.ref 0), some (.ref 34), some (.int (iI (i : Int)))] [] n K (zw J) L R := by
  have hL32 := hSc.2.2.2
  have hcs : cells ≤ room_1.cells ∧ slots ≤ room_1.slots := ⟨by show cells ≤ 600000; omega, by show slots ≤ 7302250; omega⟩
  have hy := hI.1
  obtain ⟨c, m, s, hM, hS⟩ := hI.2.2.2.2.2.1
  obtain ⟨a1, x1, y1, e1⟩ := ix_cases (xs (i + 1))
  obtain ⟨a2, x2, y2, e2⟩ := ix_cases (xs (i + 2))
  have hp := hM.pin
  refine w_aload_n (pc2 := 577) C dL_law_576 rfl rfl ?_
  refine w_aload_nx (pc2 := 578) C dL_law_577 rfl rfl ?_
  refine w_iload_n (pc2 := 579) C dL_law_578 rfl rfl ?_
  refine w_iconst (pc2 := 580) (v := iI 1) C dL_law_579 (by decide) rfl ?_
  refine z_iadd (pc2 := 581) C dL_law_580 rfl ?_
  -- at 581: .iaload
  refine w_sld (pc2 := 582) (j := i + 1) C hSc dL_law_581 (by omega) (by omega) rfl ?_
  rw [e1]
  refine w_aload_nx (pc2 := 583) C dL_law_582 rfl rfl ?_
  refine w_iload_n (pc2 := 584) C dL_law_583 rfl rfl ?_
  refine w_iconst (pc2 := 585) (v := iI 2) C dL_law_584 (by decide) rfl ?_
  refine z_iadd (pc2 := 586) C dL_law_585 rfl ?_
  -- at 586: .iaload
  refine w_sld (pc2 := 587) (j := i + 2) C hSc dL_law_586 (by omega) (by omega) rfl ?_
  rw [e2]
  refine w_cVi (pc2 := 590)  C dL_law_587 mb_L_91 mv_X10_pin (s_X10_pin hy ⟨x1, y1⟩ ⟨x2, y2⟩ (by have := hp.2.2.1; have := hp.2.2.2.2.1; omega) hp.1 hp.2.1 (fun p hpm => by have := hp.2.2.2.2.2 p hpm; have := hp.2.2.2.2.1; exact ⟨by omega, by omega⟩)) (by first | exact hy.k _ | assumption | rfl | ((try simp only [kM, kTo, kSc, nK]); (repeat rw [up1_n _ _ _ (by omega)]); first | assumption | exact up1_s _ _ _)) rfl (by decide) rfl rfl (Nat.le_of_ble_eq_true rfl) ⟨by decide, by decide⟩ ⟨rfl, rfl⟩ hcs rfl ?_
  refine w_aload_n (pc2 := 591) C dL_law_590 rfl rfl ?_
  refine w_aload_nx (pc2 := 592) C dL_law_591 rfl rfl ?_
  refine w_iload_n (pc2 := 593) C dL_law_592 rfl rfl ?_
  refine w_iconst (pc2 := 594) (v := iI 1) C dL_law_593 (by decide) rfl ?_
  refine z_iadd (pc2 := 595) C dL_law_594 rfl ?_
  -- at 595: .iaload
  refine w_sld (pc2 := 596) (j := i + 1) C hSc dL_law_595 (by omega) (by omega) rfl ?_
  rw [e1]
  refine w_aload_nx (pc2 := 597) C dL_law_596 rfl rfl ?_
  refine w_iload_n (pc2 := 598) C dL_law_597 rfl rfl ?_
  refine w_iconst (pc2 := 599) (v := iI 2) C dL_law_598 (by decide) rfl ?_
  refine z_iadd (pc2 := 600) C dL_law_599 rfl ?_
  -- at 600: .iaload
  refine w_sld (pc2 := 601) (j := i + 2) C hSc dL_law_600 (by omega) (by omega) rfl ?_
  rw [e2]
  refine w_cVi (pc2 := 604)  C dL_law_601 mb_L_94 mv_X11_pin (s_X11_pin hy (pm := pmJ J m) (s := s) hM.pnr.1 hM.pnr.2.2.1 hM.pnr.2.2.2 ⟨x1, y1⟩ ⟨x2, y2⟩) (by first | exact hy.k _ | assumption | rfl | ((try simp only [kM, kTo, kSc, nK]); (repeat rw [up1_n _ _ _ (by omega)]); first | assumption | exact up1_s _ _ _)) rfl (by decide) rfl rfl (Nat.le_of_ble_eq_true rfl) ⟨by decide, by decide⟩ ⟨rfl, rfl⟩ hcs rfl ?_
  refine w_icmp_eq (pc2 := 607) (tgt := 762) C dL_law_604 (by decide) rfl (fun _ => ?_) (fun h => absurd ?_ h)
  · exact nx.lo hI
  · rw [hp.2.2.1]
    by_cases h0 : 0 ≤ a1 ∧ a1 < (s : Int) ∧ 0 ≤ a2 ∧ a2 < 24
    · have h1 : (0 ≤ a1 ∧ a1 < (s : Int)) ∧ 0 ≤ a2 ∧ a2 < 24 := by omega
      rw [if_pos h0, if_pos h1]
      have hany : anyN (pinB J a1 a2) m = true ↔ (pmJ J m a1.toNat).testBit a2.toNat = true := by
        rw [anyN_iff, pmq_bit]
        constructor
        · rintro ⟨p, p1, p2⟩
          have := of_decide_eq_true p2
          exact ⟨p, p1, by rw [this.1], by rw [this.2]⟩
        · rintro ⟨p, p1, p2, p3⟩
          have g := hp.2.2.2.2.2 p p1
          exact ⟨p, p1, decide_eq_true ⟨by omega, by omega⟩⟩
      by_cases z : (pmJ J m a1.toNat).testBit a2.toNat = true
      · rw [if_pos (hany.mpr z), if_pos z]
      · rw [if_neg (fun q => z (hany.mp q)), if_neg z]
    · have h1 : ¬ ((0 ≤ a1 ∧ a1 < (s : Int)) ∧ 0 ≤ a2 ∧ a2 < 24) := by omega
      rw [if_neg h0, if_neg h1]

theorem pin_bd {J : wJn} {L : wLn} {c m s : Nat} (hM : MM J L c m s) : ∀ p, p < m → (J 19 p).toNat < s ∧ (J 20 p).toNat < 24 := fun p hp => by
  have := hM.pin.2.2.2.2.2 p hp
  omega

theorem lc_pins {Γ : Gm} {Q : State → Prop} {cells slots n i b Ls : Nat} {xs : Nat → Int32} {K : wKd} {J : wJn} {L : wLn} {R : wRf} (C : C_L Γ) (hSc : ScA Γ b Ls xs) (hi : i + 6 ≤ Ls) (hc2 : cells + 12 ≤ 600000 ∧ slots + 569 ≤ 7302250) (hI : Inv n K J L R) (nx : Nx Γ Q b i cells slots) : wp Γ cells slots Q 609 [some (.retAddr b), some (.ref 0), some (.ref 34), some (.int (iI (i : Int)))] [] n K (zw J) L R := by
  have hL32 := hSc.2.2.2
  have hcs : cells ≤ room_1.cells ∧ slots ≤ room_1.slots := ⟨by show cells ≤ 600000; omega, by show slots ≤ 7302250; omega⟩
  have hy := hI.1
  obtain ⟨c, m, s, hM, hS⟩ := hI.2.2.2.2.2.1
  refine w_aload_n (pc2 := 610) C dL_law_609 rfl rfl ?_
  -- at 610: .invokevirtual 95
  refine w_cVi (pc2 := 613)  C dL_law_610 mb_L_95 mv_X10_pins (s_X10_pins hy) (by first | exact hy.k _ | assumption | rfl | ((try simp only [kM, kTo, kSc, nK]); (repeat rw [up1_n _ _ _ (by omega)]); first | assumption | exact up1_s _ _ _)) rfl (by decide) rfl rfl (Nat.le_of_ble_eq_true rfl) ⟨by decide, by decide⟩ ⟨rfl, rfl⟩ hcs rfl ?_
  refine w_aload_n (pc2 := 614) C dL_law_613 rfl rfl ?_
  -- at 614: .invokevirtual 98
  refine w_cVi (pc2 := 617)  C dL_law_614 mb_L_98 mv_X11_pins (s_X11_pins hy hM.pnr) (by first | exact hy.k _ | assumption | rfl | ((try simp only [kM, kTo, kSc, nK]); (repeat rw [up1_n _ _ _ (by omega)]); first | assumption | exact up1_s _ _ _)) rfl (by decide) rfl rfl (Nat.le_of_ble_eq_true rfl) ⟨by decide, by decide⟩ ⟨rfl, rfl⟩ hcs rfl ?_
  refine w_icmp_eq (pc2 := 620) (tgt := 762) C dL_law_617 (by decide) rfl (fun _ => ?_) (fun h => absurd ?_ h)
  · exact nx.lo hI
  · rw [hM.pin.1, pins_eq hM.dis (pin_bd hM) m (Nat.le_refl m)]

theorem lc_play {Γ : Gm} {Q : State → Prop} {cells slots n i b Ls : Nat} {xs : Nat → Int32} {K : wKd} {J : wJn} {L : wLn} {R : wRf} (C : C_L Γ) (hSc : ScA Γ b Ls xs) (hi : i + 6 ≤ Ls) (hc2 : cells + 12 ≤ 600000 ∧ slots + 569 ≤ 7302250) (hI : Inv n K J L R) (nx : Nx Γ Q b i cells slots) : wp Γ cells slots Q 622 [some (.retAddr b), some (.ref 0), some (.ref 34), some (.int (iI (i : Int)))] [] n K (zw J) L R := by
  have hL32 := hSc.2.2.2
  have hcs : cells ≤ room_1.cells ∧ slots ≤ room_1.slots := ⟨by show cells ≤ 600000; omega, by show slots ≤ 7302250; omega⟩
  have hy := hI.1
  obtain ⟨c, m, s, hM, hS⟩ := hI.2.2.2.2.2.1
  obtain ⟨a1, x1, y1, e1⟩ := ix_cases (xs (i + 1))
  refine w_aload_n (pc2 := 623) C dL_law_622 rfl rfl ?_
  refine w_aload_nx (pc2 := 624) C dL_law_623 rfl rfl ?_
  refine w_iload_n (pc2 := 625) C dL_law_624 rfl rfl ?_
  refine w_iconst (pc2 := 626) (v := iI 1) C dL_law_625 (by decide) rfl ?_
  refine z_iadd (pc2 := 627) C dL_law_626 rfl ?_
  -- at 627: .iaload
  refine w_sld (pc2 := 628) (j := i + 1) C hSc dL_law_627 (by omega) (by omega) rfl ?_
  rw [e1]
  refine w_gV (pc2 := 631)  C dL_law_628 mb_L_99 mv_X10_play (s_X10_play hy ⟨x1, y1⟩ hM.mus hM.r1 hM.r2 hS hM.pin) (by first | exact hy.k _ | assumption | rfl | ((try simp only [kM, kTo, kSc, nK]); (repeat rw [up1_n _ _ _ (by omega)]); first | assumption | exact up1_s _ _ _)) rfl (by decide) rfl rfl (Nat.le_of_ble_eq_true rfl) ⟨by decide, by decide⟩ ⟨rfl, rfl⟩ hcs rfl ?_
  rintro r2 n2 K2 I2 L2 R2 hp
  rcases hp with ⟨h2, hD⟩ | ⟨h2, hD⟩ | ⟨h2, J1, hD, hT⟩
  · skip
    obtain ⟨d1, d2, d3, d4, d5, d6⟩ := hD
    replace d2 := d2.symm
    replace d3 := d3.symm
    replace d5 := d5.symm
    replace d6 := d6.symm
    subst d1
    subst d2
    subst d3
    subst d4
    subst d5
    subst d6
    refine w_aload_n (pc2 := 632) C dL_law_631 rfl rfl ?_
    refine w_aload_nx (pc2 := 633) C dL_law_632 rfl rfl ?_
    refine w_iload_n (pc2 := 634) C dL_law_633 rfl rfl ?_
    refine w_iconst (pc2 := 635) (v := iI 1) C dL_law_634 (by decide) rfl ?_
    refine z_iadd (pc2 := 636) C dL_law_635 rfl ?_
    -- at 636: .iaload
    refine w_sld (pc2 := 637) (j := i + 1) C hSc dL_law_636 (by omega) (by omega) rfl ?_
    rw [e1]
    refine w_gV (pc2 := 640)  C dL_law_637 mb_L_102 mv_X11_play (s_X11_play hy ⟨x1, y1⟩ hM.mur hM.rpr hM.pnr) (by first | exact hy.k _ | assumption | rfl | ((try simp only [kM, kTo, kSc, nK]); (repeat rw [up1_n _ _ _ (by omega)]); first | assumption | exact up1_s _ _ _)) rfl (by decide) rfl rfl (Nat.le_of_ble_eq_true rfl) ⟨by decide, by decide⟩ ⟨rfl, rfl⟩ hcs rfl ?_
    rintro r2 n2 K2 I2 L2 R2 hp
    rcases hp with ⟨h3, hD⟩ | ⟨h3, hD⟩ | ⟨h3, J2, hD, hT2⟩
    · skip
      obtain ⟨d1, d2, d3, d4, d5, d6⟩ := hD
      replace d2 := d2.symm
      replace d3 := d3.symm
      replace d5 := d5.symm
      replace d6 := d6.symm
      subst d1
      subst d2
      subst d3
      subst d4
      subst d5
      subst d6
      refine w_icmp_eq (pc2 := 643) (tgt := 762) C dL_law_640 (by decide) rfl (fun _ => ?_) (fun h => absurd ?_ h)
      · refine nx.lo (clap_inv hI (fun a b1 b2 => by rw [psR_row b2, pdL_row b1]) (fun k hk => by rw [psR_hi hk, pdL_row (by decide)]) (fun k hk => ?_))
        rw [psR_at hk, psR_row (by decide), pdL_at, pdL_row (by decide), hM.cl k hk, bells_eq hM.dis (pin_bd hM) m (Nat.le_refl m)]
      · rw [pins_eq hM.dis (pin_bd hM) m (Nat.le_refl m)]
    · exact absurd (Or.inr h2) h3
    · exact absurd h2 (by omega)
  · skip
    obtain ⟨d1, d2, d3, d4, d5, d6⟩ := hD
    replace d2 := d2.symm
    replace d3 := d3.symm
    replace d5 := d5.symm
    replace d6 := d6.symm
    subst d1
    subst d2
    subst d3
    subst d4
    subst d5
    subst d6
    refine w_aload_n (pc2 := 632) C dL_law_631 rfl rfl ?_
    refine w_aload_nx (pc2 := 633) C dL_law_632 rfl rfl ?_
    refine w_iload_n (pc2 := 634) C dL_law_633 rfl rfl ?_
    refine w_iconst (pc2 := 635) (v := iI 1) C dL_law_634 (by decide) rfl ?_
    refine z_iadd (pc2 := 636) C dL_law_635 rfl ?_
    -- at 636: .iaload
    refine w_sld (pc2 := 637) (j := i + 1) C hSc dL_law_636 (by omega) (by omega) rfl ?_
    rw [e1]
    refine w_gV (pc2 := 640)  C dL_law_637 mb_L_102 mv_X11_play (s_X11_play hy ⟨x1, y1⟩ hM.mur hM.rpr hM.pnr) (by first | exact hy.k _ | assumption | rfl | ((try simp only [kM, kTo, kSc, nK]); (repeat rw [up1_n _ _ _ (by omega)]); first | assumption | exact up1_s _ _ _)) rfl (by decide) rfl rfl (Nat.le_of_ble_eq_true rfl) ⟨by decide, by decide⟩ ⟨rfl, rfl⟩ hcs rfl ?_
    rintro r2 n2 K2 I2 L2 R2 hp
    rcases hp with ⟨h3, hD⟩ | ⟨h3, hD⟩ | ⟨h3, J2, hD, hT2⟩
    · exact absurd (Or.inr h3) h2
    · skip
      obtain ⟨d1, d2, d3, d4, d5, d6⟩ := hD
      replace d2 := d2.symm
      replace d3 := d3.symm
      replace d5 := d5.symm
      replace d6 := d6.symm
      subst d1
      subst d2
      subst d3
      subst d4
      subst d5
      subst d6
      refine w_icmp_eq (pc2 := 643) (tgt := 762) C dL_law_640 (by decide) rfl (fun _ => ?_) (fun h => absurd ?_ h)
      · exact nx.lo hI
      · rfl
    · exact absurd (Or.inl h3) h2
  · skip
    obtain ⟨d1, d2, d3, d4, d5, d6⟩ := hD
    replace d2 := d2.symm
    replace d3 := d3.symm
    replace d5 := d5.symm
    replace d6 := d6.symm
    subst d1
    subst d2
    subst d3
    subst d4
    subst d5
    subst d6
    have hI1 := ts_inv hI hM hT
    have hM1 := ts_MM hM hT
    have hse := set_eq hM1 hT.2.2.2
    refine w_aload_n (pc2 := 632) C dL_law_631 rfl rfl ?_
    refine w_aload_nx (pc2 := 633) C dL_law_632 rfl rfl ?_
    refine w_iload_n (pc2 := 634) C dL_law_633 rfl rfl ?_
    refine w_iconst (pc2 := 635) (v := iI 1) C dL_law_634 (by decide) rfl ?_
    refine z_iadd (pc2 := 636) C dL_law_635 rfl ?_
    -- at 636: .iaload
    refine w_sld (pc2 := 637) (j := i + 1) C hSc dL_law_636 (by omega) (by omega) rfl ?_
    rw [e1]
    refine w_gV (pc2 := 640)  C dL_law_637 mb_L_102 mv_X11_play (s_X11_play hy ⟨x1, y1⟩ hM1.mur hM1.rpr hM1.pnr) (by first | exact hy.k _ | assumption | rfl | ((try simp only [kM, kTo, kSc, nK]); (repeat rw [up1_n _ _ _ (by omega)]); first | assumption | exact up1_s _ _ _)) rfl (by decide) rfl rfl (Nat.le_of_ble_eq_true rfl) ⟨by decide, by decide⟩ ⟨rfl, rfl⟩ hcs rfl ?_
    rintro r2 n2 K2 I2 L2 R2 hp
    rcases hp with ⟨h3, hD⟩ | ⟨h3, hD⟩ | ⟨h3, J2, hD, hT2⟩
    · exact absurd h2 (by omega)
    · exact absurd (Or.inl h2) h3
    · skip
      obtain ⟨d1, d2, d3, d4, d5, d6⟩ := hD
      replace d2 := d2.symm
      replace d3 := d3.symm
      replace d5 := d5.symm
      replace d6 := d6.symm
      subst d1
      subst d2
      subst d3
      subst d4
      subst d5
      subst d6
      have hw : ∀ k, k < c → (J1 25 k = 2 ↔ wR J1 c k = 2) := fun k hk => by rw [hse.2.2.1 k hk]; omega
      refine w_icmp_eq (pc2 := 643) (tgt := 762) C dL_law_640 (by decide) rfl (fun _ => ?_) (fun h => absurd ?_ h)
      · refine nx.lo (clap_inv (st_inv hI1 hT2) (fun a b1 b2 => by rw [pfR_row b2, pfL_row b1]) (fun k hk => by rw [pfR_hi (c := c) (fun i hi => by have := hM1.mur.2.2 i hi; show (J1 35 (102 + i)).toNat < 24; omega) hk c (Nat.le_refl c), pfL_row (by decide)]) (fun k hk => ?_))
        rw [pfR_at, pfR_row (by decide), pfL_at, pfL_row (by decide), hM.cl k hk]
        congr 2
        refine cntN_cong c (fun p hpc => ?_)
        rw [(hM1.same p hpc).2, decide_eq_decide, hw p hpc]
      · congr 2
        refine cntN_cong c (fun p hpc => ?_)
        rw [decide_eq_decide, hw p hpc]

theorem lc_strikes {Γ : Gm} {Q : State → Prop} {cells slots n i b Ls : Nat} {xs : Nat → Int32} {K : wKd} {J : wJn} {L : wLn} {R : wRf} (C : C_L Γ) (hSc : ScA Γ b Ls xs) (hi : i + 6 ≤ Ls) (hc2 : cells + 12 ≤ 600000 ∧ slots + 569 ≤ 7302250) (hI : Inv n K J L R) (nx : Nx Γ Q b i cells slots) : wp Γ cells slots Q 645 [some (.retAddr b), some (.ref 0), some (.ref 34), some (.int (iI (i : Int)))] [] n K (zw J) L R := by
  have hL32 := hSc.2.2.2
  have hcs : cells ≤ room_1.cells ∧ slots ≤ room_1.slots := ⟨by show cells ≤ 600000; omega, by show slots ≤ 7302250; omega⟩
  have hy := hI.1
  obtain ⟨c, m, s, hM, hS⟩ := hI.2.2.2.2.2.1
  obtain ⟨a1, x1, y1, e1⟩ := ix_cases (xs (i + 1))
  refine w_aload_n (pc2 := 646) C dL_law_645 rfl rfl ?_
  refine w_aload_nx (pc2 := 647) C dL_law_646 rfl rfl ?_
  refine w_iload_n (pc2 := 648) C dL_law_647 rfl rfl ?_
  refine w_iconst (pc2 := 649) (v := iI 1) C dL_law_648 (by decide) rfl ?_
  refine z_iadd (pc2 := 650) C dL_law_649 rfl ?_
  -- at 650: .iaload
  refine w_sld (pc2 := 651) (j := i + 1) C hSc dL_law_650 (by omega) (by omega) rfl ?_
  rw [e1]
  refine w_cVl (pc2 := 654)  C dL_law_651 mb_L_103 mv_X10_strikes (s_X10_strikes hy ⟨x1, y1⟩) (by first | exact hy.k _ | assumption | rfl | ((try simp only [kM, kTo, kSc, nK]); (repeat rw [up1_n _ _ _ (by omega)]); first | assumption | exact up1_s _ _ _)) rfl (by decide) rfl rfl (Nat.le_of_ble_eq_true rfl) ⟨by decide, by decide⟩ ⟨rfl, rfl⟩ hcs rfl ?_
  refine w_aload_n (pc2 := 655) C dL_law_654 rfl rfl ?_
  refine w_aload_nx (pc2 := 656) C dL_law_655 rfl rfl ?_
  refine w_iload_n (pc2 := 657) C dL_law_656 rfl rfl ?_
  refine w_iconst (pc2 := 658) (v := iI 1) C dL_law_657 (by decide) rfl ?_
  refine z_iadd (pc2 := 659) C dL_law_658 rfl ?_
  -- at 659: .iaload
  refine w_sld (pc2 := 660) (j := i + 1) C hSc dL_law_659 (by omega) (by omega) rfl ?_
  rw [e1]
  refine w_cVl (pc2 := 663)  C dL_law_660 mb_L_107 mv_X11_strikes (s_X11_strikes hy ⟨x1, y1⟩) (by first | exact hy.k _ | assumption | rfl | ((try simp only [kM, kTo, kSc, nK]); (repeat rw [up1_n _ _ _ (by omega)]); first | assumption | exact up1_s _ _ _)) rfl (by decide) rfl rfl (Nat.le_of_ble_eq_true rfl) ⟨by decide, by decide⟩ ⟨rfl, rfl⟩ hcs rfl ?_
  refine w_lcmp (pc2 := 664) C dL_law_663 rfl ?_
  refine w_if_eq (pc2 := 667) (tgt := 762) C dL_law_664 (by decide) rfl (fun _ => ?_) (fun h => absurd ?_ h)
  · exact nx.lo hI
  · refine lcm0 ?_
    by_cases h0 : 0 ≤ a1 ∧ a1 < 24
    · rw [if_pos h0, if_pos h0, hM.cl a1.toNat (by omega)]
    · rw [if_neg h0, if_neg h0]

theorem lc_mend {Γ : Gm} {Q : State → Prop} {cells slots n i b Ls : Nat} {xs : Nat → Int32} {K : wKd} {J : wJn} {L : wLn} {R : wRf} (C : C_L Γ) (hSc : ScA Γ b Ls xs) (hi : i + 6 ≤ Ls) (hc2 : cells + 12 ≤ 600000 ∧ slots + 569 ≤ 7302250) (hI : Inv n K J L R) (nx : Nx Γ Q b i cells slots) : wp Γ cells slots Q 669 [some (.retAddr b), some (.ref 0), some (.ref 34), some (.int (iI (i : Int)))] [] n K (zw J) L R := by
  have hL32 := hSc.2.2.2
  have hcs : cells ≤ room_1.cells ∧ slots ≤ room_1.slots := ⟨by show cells ≤ 600000; omega, by show slots ≤ 7302250; omega⟩
  have hy := hI.1
  obtain ⟨c, m, s, hM, hS⟩ := hI.2.2.2.2.2.1
  obtain ⟨a1, x1, y1, e1⟩ := ix_cases (xs (i + 1))
  by_cases h0 : 0 ≤ a1 ∧ a1 < 24
  · skip
    refine w_aload_n (pc2 := 670) C dL_law_669 rfl rfl ?_
    refine w_aload_nx (pc2 := 671) C dL_law_670 rfl rfl ?_
    refine w_iload_n (pc2 := 672) C dL_law_671 rfl rfl ?_
    refine w_iconst (pc2 := 673) (v := iI 1) C dL_law_672 (by decide) rfl ?_
    refine z_iadd (pc2 := 674) C dL_law_673 rfl ?_
    -- at 674: .iaload
    refine w_sld (pc2 := 675) (j := i + 1) C hSc dL_law_674 (by omega) (by omega) rfl ?_
    rw [e1]
    refine w_cVl (pc2 := 678)  C dL_law_675 mb_L_108 mv_X10_mend (s_X10_mend hy ⟨x1, y1⟩) (by first | exact hy.k _ | assumption | rfl | ((try simp only [kM, kTo, kSc, nK]); (repeat rw [up1_n _ _ _ (by omega)]); first | assumption | exact up1_s _ _ _)) rfl (by decide) rfl rfl (Nat.le_of_ble_eq_true rfl) ⟨by decide, by decide⟩ ⟨rfl, rfl⟩ hcs rfl ?_
    rw [if_pos h0, if_pos h0]
    refine w_aload_n (pc2 := 679) C dL_law_678 rfl rfl ?_
    refine w_aload_nx (pc2 := 680) C dL_law_679 rfl rfl ?_
    refine w_iload_n (pc2 := 681) C dL_law_680 rfl rfl ?_
    refine w_iconst (pc2 := 682) (v := iI 1) C dL_law_681 (by decide) rfl ?_
    refine z_iadd (pc2 := 683) C dL_law_682 rfl ?_
    -- at 683: .iaload
    refine w_sld (pc2 := 684) (j := i + 1) C hSc dL_law_683 (by omega) (by omega) rfl ?_
    rw [e1]
    refine w_cVl (pc2 := 687)  C dL_law_684 mb_L_111 mv_X11_mend (s_X11_mend hy ⟨x1, y1⟩) (by first | exact hy.k _ | assumption | rfl | ((try simp only [kM, kTo, kSc, nK]); (repeat rw [up1_n _ _ _ (by omega)]); first | assumption | exact up1_s _ _ _)) rfl (by decide) rfl rfl (Nat.le_of_ble_eq_true rfl) ⟨by decide, by decide⟩ ⟨rfl, rfl⟩ hcs rfl ?_
    rw [if_pos h0, if_pos h0]
    refine w_lcmp (pc2 := 688) C dL_law_687 rfl ?_
    refine w_if_eq (pc2 := 691) (tgt := 762) C dL_law_688 (by decide) rfl (fun _ => ?_) (fun h => absurd ?_ h)
    · refine nx.lo (clap_inv hI (fun a b1 b2 => by rw [up2_row b2, up2_row b1]) (fun k hk => by rw [up2_n _ _ _ _ (by omega), up2_row (by decide)]) (fun k hk => ?_))
      by_cases e : k = a1.toNat
      · subst e; rw [up2_s, up2_row (by decide), up2_s]
      · rw [up2_n _ _ _ _ (by omega), up2_row (by decide), up2_row (by decide), up2_n _ _ _ _ (by omega), hM.cl k hk]
    · refine lcm0 ?_
      rw [up2_row (by decide), hM.cl a1.toNat (by omega)]
  · skip
    refine w_aload_n (pc2 := 670) C dL_law_669 rfl rfl ?_
    refine w_aload_nx (pc2 := 671) C dL_law_670 rfl rfl ?_
    refine w_iload_n (pc2 := 672) C dL_law_671 rfl rfl ?_
    refine w_iconst (pc2 := 673) (v := iI 1) C dL_law_672 (by decide) rfl ?_
    refine z_iadd (pc2 := 674) C dL_law_673 rfl ?_
    -- at 674: .iaload
    refine w_sld (pc2 := 675) (j := i + 1) C hSc dL_law_674 (by omega) (by omega) rfl ?_
    rw [e1]
    refine w_cVl (pc2 := 678)  C dL_law_675 mb_L_108 mv_X10_mend (s_X10_mend hy ⟨x1, y1⟩) (by first | exact hy.k _ | assumption | rfl | ((try simp only [kM, kTo, kSc, nK]); (repeat rw [up1_n _ _ _ (by omega)]); first | assumption | exact up1_s _ _ _)) rfl (by decide) rfl rfl (Nat.le_of_ble_eq_true rfl) ⟨by decide, by decide⟩ ⟨rfl, rfl⟩ hcs rfl ?_
    rw [if_neg h0, if_neg h0]
    refine w_aload_n (pc2 := 679) C dL_law_678 rfl rfl ?_
    refine w_aload_nx (pc2 := 680) C dL_law_679 rfl rfl ?_
    refine w_iload_n (pc2 := 681) C dL_law_680 rfl rfl ?_
    refine w_iconst (pc2 := 682) (v := iI 1) C dL_law_681 (by decide) rfl ?_
    refine z_iadd (pc2 := 683) C dL_law_682 rfl ?_
    -- at 683: .iaload
    refine w_sld (pc2 := 684) (j := i + 1) C hSc dL_law_683 (by omega) (by omega) rfl ?_
    rw [e1]
    refine w_cVl (pc2 := 687)  C dL_law_684 mb_L_111 mv_X11_mend (s_X11_mend hy ⟨x1, y1⟩) (by first | exact hy.k _ | assumption | rfl | ((try simp only [kM, kTo, kSc, nK]); (repeat rw [up1_n _ _ _ (by omega)]); first | assumption | exact up1_s _ _ _)) rfl (by decide) rfl rfl (Nat.le_of_ble_eq_true rfl) ⟨by decide, by decide⟩ ⟨rfl, rfl⟩ hcs rfl ?_
    rw [if_neg h0, if_neg h0]
    refine w_lcmp (pc2 := 688) C dL_law_687 rfl ?_
    refine w_if_eq (pc2 := 691) (tgt := 762) C dL_law_688 (by decide) rfl (fun _ => ?_) (fun h => absurd ?_ h)
    · exact nx.lo hI
    · exact lcm0 rfl

theorem lc_worn {Γ : Gm} {Q : State → Prop} {cells slots n i b Ls : Nat} {xs : Nat → Int32} {K : wKd} {J : wJn} {L : wLn} {R : wRf} (C : C_L Γ) (hSc : ScA Γ b Ls xs) (hi : i + 6 ≤ Ls) (hc2 : cells + 12 ≤ 600000 ∧ slots + 569 ≤ 7302250) (hI : Inv n K J L R) (nx : Nx Γ Q b i cells slots) : wp Γ cells slots Q 693 [some (.retAddr b), some (.ref 0), some (.ref 34), some (.int (iI (i : Int)))] [] n K (zw J) L R := by
  have hL32 := hSc.2.2.2
  have hcs : cells ≤ room_1.cells ∧ slots ≤ room_1.slots := ⟨by show cells ≤ 600000; omega, by show slots ≤ 7302250; omega⟩
  have hy := hI.1
  obtain ⟨c, m, s, hM, hS⟩ := hI.2.2.2.2.2.1
  obtain ⟨a1, x1, y1, e1⟩ := ix_cases (xs (i + 1))
  refine w_aload_n (pc2 := 694) C dL_law_693 rfl rfl ?_
  refine w_aload_nx (pc2 := 695) C dL_law_694 rfl rfl ?_
  refine w_iload_n (pc2 := 696) C dL_law_695 rfl rfl ?_
  refine w_iconst (pc2 := 697) (v := iI 1) C dL_law_696 (by decide) rfl ?_
  refine z_iadd (pc2 := 698) C dL_law_697 rfl ?_
  -- at 698: .iaload
  refine w_sld (pc2 := 699) (j := i + 1) C hSc dL_law_698 (by omega) (by omega) rfl ?_
  rw [e1]
  refine w_cVi (pc2 := 702)  C dL_law_699 mb_L_112 mv_X10_worn (s_X10_worn hy ⟨x1, y1⟩) (by first | exact hy.k _ | assumption | rfl | ((try simp only [kM, kTo, kSc, nK]); (repeat rw [up1_n _ _ _ (by omega)]); first | assumption | exact up1_s _ _ _)) rfl (by decide) rfl rfl (Nat.le_of_ble_eq_true rfl) ⟨by decide, by decide⟩ ⟨rfl, rfl⟩ hcs rfl ?_
  refine w_aload_n (pc2 := 703) C dL_law_702 rfl rfl ?_
  refine w_aload_nx (pc2 := 704) C dL_law_703 rfl rfl ?_
  refine w_iload_n (pc2 := 705) C dL_law_704 rfl rfl ?_
  refine w_iconst (pc2 := 706) (v := iI 1) C dL_law_705 (by decide) rfl ?_
  refine z_iadd (pc2 := 707) C dL_law_706 rfl ?_
  -- at 707: .iaload
  refine w_sld (pc2 := 708) (j := i + 1) C hSc dL_law_707 (by omega) (by omega) rfl ?_
  rw [e1]
  refine w_cVi (pc2 := 711)  C dL_law_708 mb_L_115 mv_X11_worn (s_X11_worn hy ⟨x1, y1⟩) (by first | exact hy.k _ | assumption | rfl | ((try simp only [kM, kTo, kSc, nK]); (repeat rw [up1_n _ _ _ (by omega)]); first | assumption | exact up1_s _ _ _)) rfl (by decide) rfl rfl (Nat.le_of_ble_eq_true rfl) ⟨by decide, by decide⟩ ⟨rfl, rfl⟩ hcs rfl ?_
  refine w_icmp_eq (pc2 := 714) (tgt := 762) C dL_law_711 (by decide) rfl (fun _ => ?_) (fun h => absurd ?_ h)
  · exact nx.lo hI
  · by_cases h0 : 1 ≤ a1
    · rw [if_pos h0, if_neg (by omega)]
      congr 2
      refine cntN_cong 24 (fun k hk => ?_)
      unfold wornB
      rw [hM.cl k hk]
    · rw [if_neg h0, if_pos (by omega)]

theorem lc_image {Γ : Gm} {Q : State → Prop} {cells slots n i b Ls : Nat} {xs : Nat → Int32} {K : wKd} {J : wJn} {L : wLn} {R : wRf} (C : C_L Γ) (hSc : ScA Γ b Ls xs) (hi : i + 6 ≤ Ls) (hc2 : cells + 12 ≤ 600000 ∧ slots + 569 ≤ 7302250) (hI : Inv n K J L R) (nx : Nx Γ Q b i cells slots) : wp Γ cells slots Q 716 [some (.retAddr b), some (.ref 0), some (.ref 34), some (.int (iI (i : Int)))] [] n K (zw J) L R := by
  have hL32 := hSc.2.2.2
  have hcs : cells ≤ room_1.cells ∧ slots ≤ room_1.slots := ⟨by show cells ≤ 600000; omega, by show slots ≤ 7302250; omega⟩
  have hy := hI.1
  obtain ⟨c, m, s, hM, hS⟩ := hI.2.2.2.2.2.1
  obtain ⟨a1, x1, y1, e1⟩ := ix_cases (xs (i + 1))
  by_cases h0 : 0 ≤ a1 ∧ a1 < 2
  · have e0 : a1 = ((a1.toNat : Nat) : Int) := by omega
    generalize a1.toNat = j at e0
    subst e0
    refine w_aload_n (pc2 := 717) C dL_law_716 rfl rfl ?_
    refine w_aload_nx (pc2 := 718) C dL_law_717 rfl rfl ?_
    refine w_iload_n (pc2 := 719) C dL_law_718 rfl rfl ?_
    refine w_iconst (pc2 := 720) (v := iI 1) C dL_law_719 (by decide) rfl ?_
    refine z_iadd (pc2 := 721) C dL_law_720 rfl ?_
    -- at 721: .iaload
    refine w_sld (pc2 := 722) (j := i + 1) C hSc dL_law_721 (by omega) (by omega) rfl ?_
    rw [e1]
    refine w_callV (pc2 := 725) C dL_law_722 mb_L_116 mv_X10_image (s_X10_image hy hI.2.1 hI.2.2.1 (j := j) (by omega)) (hy.k _) rfl (by decide) rfl rfl (Nat.le_of_ble_eq_true rfl) ⟨by decide, by decide⟩ ⟨hc2.1, hc2.2⟩ rfl ?_
    rintro r2 n2 K2 I2 L2 R2 hP
    obtain ⟨J1, v1, v2, hy2, hI2⟩ := image_inv hI (by omega) hP
    subst v1
    subst v2
    have hk34 : K2 34 = (11, 0) := hy2.k _
    have hcs : cells + 12 ≤ room_1.cells ∧ slots + 569 ≤ room_1.slots := ⟨hc2.1, hc2.2⟩
    refine w_aload_n (pc2 := 726) C dL_law_725 rfl rfl ?_
    refine w_aload_nx (pc2 := 727) C dL_law_726 rfl rfl ?_
    refine w_iload_n (pc2 := 728) C dL_law_727 rfl rfl ?_
    refine w_iconst (pc2 := 729) (v := iI 1) C dL_law_728 (by decide) rfl ?_
    refine z_iadd (pc2 := 730) C dL_law_729 rfl ?_
    -- at 730: .iaload
    refine w_sld (pc2 := 731) (j := i + 1) C hSc dL_law_730 (by omega) (by omega) rfl ?_
    rw [e1]
    refine w_cVi (pc2 := 734)  C dL_law_731 mb_L_119 mv_X11_image (s_X11_image hy2 (by omega)) (by first | exact hy.k _ | assumption | rfl | ((try simp only [kM, kTo, kSc, nK]); (repeat rw [up1_n _ _ _ (by omega)]); first | assumption | exact up1_s _ _ _)) rfl (by decide) rfl rfl (Nat.le_of_ble_eq_true rfl) ⟨by decide, by decide⟩ ⟨rfl, rfl⟩ hcs rfl ?_
    refine w_icmp_eq (pc2 := 737) (tgt := 762) C dL_law_734 (by decide) rfl (fun _ => ?_) (fun h => absurd ?_ h)
    · exact nx _ _ _ _ _ hI2
    · rfl
  · skip
    refine w_aload_n (pc2 := 717) C dL_law_716 rfl rfl ?_
    refine w_aload_nx (pc2 := 718) C dL_law_717 rfl rfl ?_
    refine w_iload_n (pc2 := 719) C dL_law_718 rfl rfl ?_
    refine w_iconst (pc2 := 720) (v := iI 1) C dL_law_719 (by decide) rfl ?_
    refine z_iadd (pc2 := 721) C dL_law_720 rfl ?_
    -- at 721: .iaload
    refine w_sld (pc2 := 722) (j := i + 1) C hSc dL_law_721 (by omega) (by omega) rfl ?_
    rw [e1]
    refine w_callV (pc2 := 725) C dL_law_722 mb_L_116 mv_X10_image (s_X10_image0 ⟨x1, y1⟩ h0) (hy.k _) rfl (by decide) rfl rfl (Nat.le_of_ble_eq_true rfl) ⟨by decide, by decide⟩ ⟨hc2.1, hc2.2⟩ rfl ?_
    rintro r2 n2 K2 I2 L2 R2 hD
    obtain ⟨d1, d2, d3, d4, d5, d6⟩ := hD
    replace d2 := d2.symm
    replace d3 := d3.symm
    replace d5 := d5.symm
    replace d6 := d6.symm
    subst d1
    subst d2
    subst d3
    subst d4
    subst d5
    subst d6
    have hcs : cells + 12 ≤ room_1.cells ∧ slots + 569 ≤ room_1.slots := ⟨hc2.1, hc2.2⟩
    refine w_aload_n (pc2 := 726) C dL_law_725 rfl rfl ?_
    refine w_aload_nx (pc2 := 727) C dL_law_726 rfl rfl ?_
    refine w_iload_n (pc2 := 728) C dL_law_727 rfl rfl ?_
    refine w_iconst (pc2 := 729) (v := iI 1) C dL_law_728 (by decide) rfl ?_
    refine z_iadd (pc2 := 730) C dL_law_729 rfl ?_
    -- at 730: .iaload
    refine w_sld (pc2 := 731) (j := i + 1) C hSc dL_law_730 (by omega) (by omega) rfl ?_
    rw [e1]
    refine w_cVi (pc2 := 734)  C dL_law_731 mb_L_119 mv_X11_image (s_X11_image0 ⟨x1, y1⟩ h0) (by first | exact hy.k _ | assumption | rfl | ((try simp only [kM, kTo, kSc, nK]); (repeat rw [up1_n _ _ _ (by omega)]); first | assumption | exact up1_s _ _ _)) rfl (by decide) rfl rfl (Nat.le_of_ble_eq_true rfl) ⟨by decide, by decide⟩ ⟨rfl, rfl⟩ hcs rfl ?_
    refine w_icmp_eq (pc2 := 737) (tgt := 762) C dL_law_734 (by decide) rfl (fun _ => ?_) (fun h => absurd ?_ h)
    · exact nx _ _ _ _ _ hI
    · rfl

theorem lc_back {Γ : Gm} {Q : State → Prop} {cells slots n i b Ls : Nat} {xs : Nat → Int32} {K : wKd} {J : wJn} {L : wLn} {R : wRf} (C : C_L Γ) (hSc : ScA Γ b Ls xs) (hi : i + 6 ≤ Ls) (hc2 : cells + 12 ≤ 600000 ∧ slots + 569 ≤ 7302250) (hI : Inv n K J L R) (nx : Nx Γ Q b i cells slots) : wp Γ cells slots Q 739 [some (.retAddr b), some (.ref 0), some (.ref 34), some (.int (iI (i : Int)))] [] n K (zw J) L R := by
  have hL32 := hSc.2.2.2
  have hcs : cells ≤ room_1.cells ∧ slots ≤ room_1.slots := ⟨by show cells ≤ 600000; omega, by show slots ≤ 7302250; omega⟩
  have hy := hI.1
  obtain ⟨c, m, s, hM, hS⟩ := hI.2.2.2.2.2.1
  obtain ⟨a1, x1, y1, e1⟩ := ix_cases (xs (i + 1))
  have hJ7 : ∀ bb, up2 (cpMa J 11 bb) 0 7 0 37 = J 37 := fun bb => by rw [up2_row (by decide), cpMa_o (by omega)]
  refine w_aload_n (pc2 := 740) C dL_law_739 rfl rfl ?_
  refine w_aload_nx (pc2 := 741) C dL_law_740 rfl rfl ?_
  refine w_iload_n (pc2 := 742) C dL_law_741 rfl rfl ?_
  refine w_iconst (pc2 := 743) (v := iI 1) C dL_law_742 (by decide) rfl ?_
  refine z_iadd (pc2 := 744) C dL_law_743 rfl ?_
  -- at 744: .iaload
  refine w_sld (pc2 := 745) (j := i + 1) C hSc dL_law_744 (by omega) (by omega) rfl ?_
  rw [e1]
  refine w_gV (pc2 := 748)  C dL_law_745 mb_L_120 mv_X10_back (s_X10_back hy hI.2.2.1 ⟨x1, y1⟩) (by first | exact hy.k _ | assumption | rfl | ((try simp only [kM, kTo, kSc, nK]); (repeat rw [up1_n _ _ _ (by omega)]); first | assumption | exact up1_s _ _ _)) rfl (by decide) rfl rfl (Nat.le_of_ble_eq_true rfl) ⟨by decide, by decide⟩ ⟨rfl, rfl⟩ hcs rfl ?_
  rintro r2 n2 K2 I2 L2 R2 hp
  rcases hp with ⟨h2, hD⟩ | ⟨bb, h2, h3, h4, hD⟩
  · skip
    obtain ⟨d1, d2, d3, d4, d5, d6⟩ := hD
    replace d2 := d2.symm
    replace d3 := d3.symm
    replace d5 := d5.symm
    replace d6 := d6.symm
    subst d1
    subst d2
    subst d3
    subst d4
    subst d5
    subst d6
    refine w_aload_n (pc2 := 749) C dL_law_748 rfl rfl ?_
    refine w_aload_nx (pc2 := 750) C dL_law_749 rfl rfl ?_
    refine w_iload_n (pc2 := 751) C dL_law_750 rfl rfl ?_
    refine w_iconst (pc2 := 752) (v := iI 1) C dL_law_751 (by decide) rfl ?_
    refine z_iadd (pc2 := 753) C dL_law_752 rfl ?_
    -- at 753: .iaload
    refine w_sld (pc2 := 754) (j := i + 1) C hSc dL_law_753 (by omega) (by omega) rfl ?_
    rw [e1]
    refine w_cVi (pc2 := 757)  C dL_law_754 mb_L_123 mv_X11_back (s_X11_back0 hy ⟨x1, y1⟩ (by
      rcases h2 with z | z
      · exact Or.inl z
      · by_cases h0 : 0 ≤ a1 ∧ a1 < 2
        · rcases hI.2.2.2.2.2.2 a1.toNat (by omega) with ⟨-, q2⟩ | ⟨b2, q1, -⟩
          · exact Or.inr q2
          · rw [z] at q1; cases q1
        · exact Or.inl h0)) (by first | exact hy.k _ | assumption | rfl | ((try simp only [kM, kTo, kSc, nK]); (repeat rw [up1_n _ _ _ (by omega)]); first | assumption | exact up1_s _ _ _)) rfl (by decide) rfl rfl (Nat.le_of_ble_eq_true rfl) ⟨by decide, by decide⟩ ⟨rfl, rfl⟩ hcs rfl ?_
    refine w_icmp_eq (pc2 := 760) (tgt := 762) C dL_law_757 (by decide) rfl (fun _ => ?_) (fun h => absurd ?_ h)
    · exact nx.lo hI
    · rfl
  · skip
    obtain ⟨d1, d2, d3, d4, d5, d6⟩ := hD
    replace d2 := d2.symm
    replace d3 := d3.symm
    replace d5 := d5.symm
    replace d6 := d6.symm
    subst d1
    subst d2
    subst d3
    subst d4
    subst d5
    subst d6
    have e0 : a1 = ((a1.toNat : Nat) : Int) := by omega
    generalize a1.toNat = j at e0 h4
    subst e0
    have hk1 : J 37 j = 1 := by
      rcases hI.2.2.2.2.2.2 j (by omega) with ⟨q1, -⟩ | ⟨b2, q1, q2, -⟩
      · rw [h4] at q1; cases q1
      · exact q2
    refine w_aload_n (pc2 := 749) C dL_law_748 rfl rfl ?_
    refine w_aload_nx (pc2 := 750) C dL_law_749 rfl rfl ?_
    refine w_iload_n (pc2 := 751) C dL_law_750 rfl rfl ?_
    refine w_iconst (pc2 := 752) (v := iI 1) C dL_law_751 (by decide) rfl ?_
    refine z_iadd (pc2 := 753) C dL_law_752 rfl ?_
    -- at 753: .iaload
    refine w_sld (pc2 := 754) (j := i + 1) C hSc dL_law_753 (by omega) (by omega) rfl ?_
    rw [e1]
    refine w_cVi (pc2 := 757)  C dL_law_754 mb_L_123 mv_X11_back (s_X11_back hy (by omega) (by rw [hJ7]; exact hk1)) (by first | exact hy.k _ | assumption | rfl | ((try simp only [kM, kTo, kSc, nK]); (repeat rw [up1_n _ _ _ (by omega)]); first | assumption | exact up1_s _ _ _)) rfl (by decide) rfl rfl (Nat.le_of_ble_eq_true rfl) ⟨by decide, by decide⟩ ⟨rfl, rfl⟩ hcs rfl ?_
    refine w_icmp_eq (pc2 := 760) (tgt := 762) C dL_law_757 (by decide) rfl (fun _ => ?_) (fun h => absurd ?_ h)
    · exact nx.lo (back_inv hI (by omega) h4)
    · rfl

end CASES3
