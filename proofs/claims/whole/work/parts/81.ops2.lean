section PARTS
variable {J J2 : wJn} {L : wLn} {c m s : Nat}
theorem MA.rows (h : MA J 11 (J 35) c) (h12 : J2 12 2 = J 12 2 ∧ J2 12 3 = J 12 3) (h13 : J2 13 = J 13) (h14 : J2 14 = J 14) (h35 : ∀ k, k < 202 → J2 35 k = J 35 k) : MA J2 11 (J2 35) c := by
  obtain ⟨a1, a2, a3, a4, a5⟩ := h
  have hc := a1.1
  refine ⟨?_, ?_, ?_, ?_, fun i hi => ?_⟩
  · show SMu c (J2 13) (J2 14); rw [h13, h14]; exact a1
  · show J2 12 2 = _; rw [h12.1]; exact a2
  · rw [h35 0 (by omega)]; exact a3
  · show J2 35 1 = J2 12 3; rw [h35 1 (by omega), h12.2]; exact a4
  · show J2 35 (2 + i) = J2 13 i ∧ J2 35 (102 + i) = J2 14 i
    rw [h35 (2 + i) (by omega), h35 (102 + i) (by omega), h13, h14]; exact a5 i hi
theorem MBf.rows (h : MBf J 11 (J 35)) (h6 : J2 11 6 = J 11 6) (h7 : J2 11 7 = J 11 7) (e1 : J2 35 202 = J 35 202) (e2 : J2 35 203 = J 35 203) : MBf J2 11 (J2 35) := by
  unfold MBf at h ⊢
  rw [h6, h7, e1, e2]; exact h
theorem MC.rows (h : MC J 11 (J 35)) (h15 : J2 15 1 = J 15 1) (h16 : J2 16 = J 16) (h35 : ∀ k, 204 ≤ k → k ≤ 228 → J2 35 k = J 35 k) : MC J2 11 (J2 35) := by
  obtain ⟨c1, c2⟩ := h
  refine ⟨fun i hi => ?_, ?_⟩
  · show (1 ≤ J2 16 i ∧ J2 16 i ≤ 60) ∧ J2 35 (204 + i) = J2 16 i
    rw [h16, h35 (204 + i) (by omega) (by omega)]; exact c1 i hi
  · show J2 35 228 = J2 15 1; rw [h35 228 (by omega) (by omega), h15]; exact c2
theorem MD.rows (h : MD J 11 (J 35) m s) (h18 : J2 18 = J 18) (h19 : J2 19 = J 19) (h20 : J2 20 = J 20) (e1 : J2 35 229 = J 35 229) (e2 : J2 35 230 = J 35 230) (h35 : ∀ k, 233 ≤ k → k < 2296 → J2 35 k = J 35 k) : MD J2 11 (J2 35) m s := by
  obtain ⟨d1, d7, d8, d9, d10⟩ := h
  have hs := d1.2.2.2.2.1
  refine ⟨?_, ?_, ?_, ?_, fun i hi => ?_⟩
  · show J2 18 2 = _ ∧ _ ∧ J2 18 3 = _ ∧ _ ∧ _ ∧ ∀ p, p < m → 0 ≤ J2 19 p ∧ J2 19 p < s ∧ 0 ≤ J2 20 p ∧ J2 20 p < 24
    rw [h18, h19, h20]; exact d1
  · show Dis (fun p => (J2 19 p).toNat) (fun p => (J2 20 p).toNat) m
    rw [h19, h20]; exact d7
  · rw [e1]; exact d8
  · show J2 35 230 = J2 18 4; rw [e2, h18]; exact d9
  · show J2 35 (233 + i) = (pmq (fun p => (J2 19 p).toNat) (fun p => (J2 20 p).toNat) m i : Nat)
    rw [h35 (233 + i) (by omega) (by omega), h19, h20]; exact d10 i hi
theorem ME.rows (h : ME J 11 (J 35)) (h4 : J2 11 4 = J 11 4) (h5 : J2 11 5 = J 11 5) (e1 : J2 35 231 = J 35 231) (e2 : J2 35 232 = J 35 232) : ME J2 11 (J2 35) := by
  unfold ME at h ⊢
  rw [h4, h5, e1, e2]; exact h
end PARTS
section OPS2
variable {n : Nat} {K : wKd} {J J1 J2 : wJn} {L L2 : wLn} {R : wRf} {c m s : Nat}
theorem tail_inv (hI : Inv n K J L R) {a : Nat} {b : Int} (ha : a < 24) (hb : 1 ≤ b ∧ b ≤ 60) : Inv n K (up2 (up2 J 16 a b) 35 (204 + a) b) L R := by
  obtain ⟨c, m, s, ⟨hA, hB, hC, hD, hE, hF⟩, hS⟩ := hI.2.2.2.2.2.1
  have ho : ∀ x, x ≠ 16 → x ≠ 35 → up2 (up2 J 16 a b) 35 (204 + a) b x = J x := fun x a1 a2 => by rw [up2_row a2, up2_row a1]
  have h35 : ∀ k, k ≠ 204 + a → up2 (up2 J 16 a b) 35 (204 + a) b 35 k = J 35 k := fun k k1 => by rw [up2_n _ _ _ _ (by omega), up2_row (by decide)]
  have h16 : ∀ k, k ≠ a → up2 (up2 J 16 a b) 35 (204 + a) b 16 k = J 16 k := fun k k1 => by rw [up2_row (by decide), up2_n _ _ _ _ (by omega)]
  have e16 : up2 (up2 J 16 a b) 35 (204 + a) b 16 a = b := by rw [up2_row (by decide), up2_s]
  have e35 : up2 (up2 J 16 a b) 35 (204 + a) b 35 (204 + a) = b := up2_s _ _ _ _
  generalize up2 (up2 J 16 a b) 35 (204 + a) b = J2 at *
  refine hI.upd (hI.2.2.2.2.1.rows (by rw [ho 1 (by decide) (by decide)]) (ho 2 (by decide) (by decide)) (by rw [ho 34 (by decide) (by decide)]) (ho 38 (by decide) (by decide))) ⟨c, m, s, ⟨hA.rows (by rw [ho 12 (by decide) (by decide)]; exact ⟨rfl, rfl⟩) (ho 13 (by decide) (by decide)) (ho 14 (by decide) (by decide)) (fun k hk => h35 k (by omega)), hB.rows (by rw [ho 11 (by decide) (by decide)]) (by rw [ho 11 (by decide) (by decide)]) (h35 202 (by omega)) (h35 203 (by omega)), ⟨fun i hi => ?_, ?_⟩, hD.rows (ho 18 (by decide) (by decide)) (ho 19 (by decide) (by decide)) (ho 20 (by decide) (by decide)) (h35 229 (by omega)) (h35 230 (by omega)) (fun k k1 k2 => h35 k (by omega)), hE.rows (by rw [ho 11 (by decide) (by decide)]) (by rw [ho 11 (by decide) (by decide)]) (h35 231 (by omega)) (h35 232 (by omega)), hF⟩, hS.rows (by rw [ho 0 (by decide) (by decide)]) (by rw [ho 11 (by decide) (by decide)]) (by rw [ho 11 (by decide) (by decide)]) (ho 13 (by decide) (by decide)) (ho 14 (by decide) (by decide)) (ho 24 (by decide) (by decide)) (ho 25 (by decide) (by decide)) (ho 26 (by decide) (by decide))⟩ (fun x hx => ⟨ho x (by omega) (by omega), rfl⟩) (ho 37 (by decide) (by decide)) (fun k hk => h35 k (by omega)) (fun _ _ => rfl)
  · show (1 ≤ J2 16 i ∧ J2 16 i ≤ 60) ∧ J2 35 (204 + i) = J2 16 i
    by_cases e : i = a
    · subst e; rw [e16, e35]; exact ⟨hb, rfl⟩
    · rw [h16 i e, h35 (204 + i) (by omega)]; exact hC.1 i hi
  · show J2 35 228 = J2 15 1; rw [h35 228 (by omega), ho 15 (by decide) (by decide)]; exact hC.2
theorem quarrel_inv (hI : Inv n K J L R) {a : Int} : Inv n K (up2 (up2 J 15 1 a) 35 228 a) L R := by
  obtain ⟨c, m, s, ⟨hA, hB, hC, hD, hE, hF⟩, hS⟩ := hI.2.2.2.2.2.1
  have ho : ∀ x, x ≠ 15 → x ≠ 35 → up2 (up2 J 15 1 a) 35 228 a x = J x := fun x a1 a2 => by rw [up2_row a2, up2_row a1]
  have h35 : ∀ k, k ≠ 228 → up2 (up2 J 15 1 a) 35 228 a 35 k = J 35 k := fun k k1 => by rw [up2_n _ _ _ _ (by omega), up2_row (by decide)]
  have e15 : up2 (up2 J 15 1 a) 35 228 a 15 1 = a := by rw [up2_row (by decide), up2_s]
  have e35 : up2 (up2 J 15 1 a) 35 228 a 35 228 = a := up2_s _ _ _ _
  generalize up2 (up2 J 15 1 a) 35 228 a = J2 at *
  refine hI.upd (hI.2.2.2.2.1.rows (by rw [ho 1 (by decide) (by decide)]) (ho 2 (by decide) (by decide)) (by rw [ho 34 (by decide) (by decide)]) (ho 38 (by decide) (by decide))) ⟨c, m, s, ⟨hA.rows (by rw [ho 12 (by decide) (by decide)]; exact ⟨rfl, rfl⟩) (ho 13 (by decide) (by decide)) (ho 14 (by decide) (by decide)) (fun k hk => h35 k (by omega)), hB.rows (by rw [ho 11 (by decide) (by decide)]) (by rw [ho 11 (by decide) (by decide)]) (h35 202 (by omega)) (h35 203 (by omega)), ⟨fun i hi => ?_, ?_⟩, hD.rows (ho 18 (by decide) (by decide)) (ho 19 (by decide) (by decide)) (ho 20 (by decide) (by decide)) (h35 229 (by omega)) (h35 230 (by omega)) (fun k k1 k2 => h35 k (by omega)), hE.rows (by rw [ho 11 (by decide) (by decide)]) (by rw [ho 11 (by decide) (by decide)]) (h35 231 (by omega)) (h35 232 (by omega)), hF⟩, hS.rows (by rw [ho 0 (by decide) (by decide)]) (by rw [ho 11 (by decide) (by decide)]) (by rw [ho 11 (by decide) (by decide)]) (ho 13 (by decide) (by decide)) (ho 14 (by decide) (by decide)) (ho 24 (by decide) (by decide)) (ho 25 (by decide) (by decide)) (ho 26 (by decide) (by decide))⟩ (fun x hx => ⟨ho x (by omega) (by omega), rfl⟩) (ho 37 (by decide) (by decide)) (fun k hk => h35 k (by omega)) (fun _ _ => rfl)
  · show (1 ≤ J2 16 i ∧ J2 16 i ≤ 60) ∧ J2 35 (204 + i) = J2 16 i
    rw [ho 16 (by decide) (by decide), h35 (204 + i) (by omega)]; exact hC.1 i hi
  · show J2 35 228 = J2 15 1; rw [e35, e15]
/-- THE DRUM anew: what is told of the cells that change -/
theorem drumlike_inv (hI : Inv n K J L R) (hr : ∀ x, x ≠ 18 → x ≠ 19 → x ≠ 20 → x ≠ 32 → x ≠ 33 → x ≠ 35 → J2 x = J x) (h35 : ∀ k, k < 229 ∨ k = 231 ∨ k = 232 ∨ 2296 ≤ k → J2 35 k = J 35 k) (hD : ∃ m s, MD J2 11 (J2 35) m s) : Inv n K J2 L R := by
  obtain ⟨c, m, s, ⟨hA, hB, hC, -, hE, hF⟩, hS⟩ := hI.2.2.2.2.2.1
  obtain ⟨m2, s2, hD⟩ := hD
  have ho : ∀ x, x ≠ 18 ∧ x ≠ 19 ∧ x ≠ 20 ∧ x ≠ 32 ∧ x ≠ 33 ∧ x ≠ 35 → J2 x = J x := fun x h => hr x h.1 h.2.1 h.2.2.1 h.2.2.2.1 h.2.2.2.2.1 h.2.2.2.2.2
  exact hI.upd (hI.2.2.2.2.1.rows (by rw [ho 1 (by decide)]) (ho 2 (by decide)) (by rw [ho 34 (by decide)]) (ho 38 (by decide))) ⟨c, m2, s2, ⟨hA.rows (by rw [ho 12 (by decide)]; exact ⟨rfl, rfl⟩) (ho 13 (by decide)) (ho 14 (by decide)) (fun k hk => h35 k (by omega)), hB.rows (by rw [ho 11 (by decide)]) (by rw [ho 11 (by decide)]) (h35 202 (by omega)) (h35 203 (by omega)), hC.rows (by rw [ho 15 (by decide)]) (ho 16 (by decide)) (fun k k1 k2 => h35 k (by omega)), hD, hE.rows (by rw [ho 11 (by decide)]) (by rw [ho 11 (by decide)]) (h35 231 (by omega)) (h35 232 (by omega)), hF⟩, hS.rows (by rw [ho 0 (by decide)]) (by rw [ho 11 (by decide)]) (by rw [ho 11 (by decide)]) (ho 13 (by decide)) (ho 14 (by decide)) (ho 24 (by decide)) (ho 25 (by decide)) (ho 26 (by decide))⟩ (fun x hx => ⟨ho x (by omega), rfl⟩) (ho 37 (by decide)) (fun k hk => h35 k (by omega)) (fun _ _ => rfl)
theorem drum_inv (hI : Inv n K J L R) {a : Nat} (ha : 1 ≤ a ∧ a ≤ 2063) : Inv n K (zp (up2 (up2 (up2 (up2 (up2 J 18 3 (a : Int)) 18 2 0) 18 4 (-1)) 35 229 (a : Int)) 35 230 (-1)) 2063) L R := by
  have r18 : ∀ k, zp (up2 (up2 (up2 (up2 (up2 J 18 3 (a : Int)) 18 2 0) 18 4 (-1)) 35 229 (a : Int)) 35 230 (-1)) 2063 18 k = up2 (up2 (up2 J 18 3 (a : Int)) 18 2 0) 18 4 (-1) 18 k := fun k => by rw [zp_row (by decide), up2_row (by decide), up2_row (by decide)]
  refine drumlike_inv hI (fun x x1 x2 x3 x4 x5 x6 => by rw [zp_row x6, up2_row x6, up2_row x6, up2_row x1, up2_row x1, up2_row x1]) (fun k hk => by rw [zp_o (by omega), up2_n _ _ _ _ (by omega), up2_n _ _ _ _ (by omega), up2_row (by decide), up2_row (by decide), up2_row (by decide)]) ⟨0, a, ⟨⟨?_, by omega, ?_, ha.1, ha.2, fun p hp => absurd hp (by omega)⟩, fun p q h1 h2 => absurd h2 (by omega), ?_, ?_, fun i hi => ?_⟩⟩
  · show zp _ 2063 18 2 = _
    rw [r18, up2_n _ _ _ _ (by omega), up2_s]; rfl
  · show zp _ 2063 18 3 = _
    rw [r18, up2_n _ _ _ _ (by omega), up2_n _ _ _ _ (by omega), up2_s]
  · rw [zp_o (by omega), up2_n _ _ _ _ (by omega), up2_s]
  · show zp _ 2063 35 230 = zp _ 2063 18 4
    rw [r18, up2_s, zp_o (by omega), up2_s]
  · rw [zp_in (by omega)]; rfl
theorem chg_row {x : Nat} (h1 : x ≠ 18) (h2 : x ≠ 19) (h3 : x ≠ 20) (h4 : x ≠ 32) (h5 : x ≠ 33) : chgJ J c m s x = J x := by
  unfold chgJ findJ
  rw [up2_row h1, up2_row h1, pdJ_row h2 h3, up2_row h4, up2_row h4, kOut_row h5, zeroK, ov_row h5]
theorem find_row {x : Nat} (h4 : x ≠ 32) (h5 : x ≠ 33) : findJ J c m s x = J x := by
  unfold findJ
  rw [up2_row h4, up2_row h4, kOut_row h5, zeroK, ov_row h5]
theorem change_inv (hI : Inv n K J L R) (hM : MM J L c m s) (hts : ∀ i, i < c → J 13 i < s) {t : Nat} (ht : findJ J c m s 32 0 = (t : Nat)) (hts2 : t < s) (hc : ChR (chgJ J c m s) J2 c s t) : Inv n K J2 L R := by
  have hm := hM.smu
  have hsm := hM.same
  have hp := hM.pin
  have r35 : chgJ J c m s 35 = J 35 := chg_row (by decide) (by decide) (by decide) (by decide) (by decide)
  obtain ⟨c1, c2, c3, c4⟩ := hc
  have e18 : J2 18 = chgJ J c m s 18 := c1 18 (by decide)
  have e19 : J2 19 = chgJ J c m s 19 := c1 19 (by decide)
  have e20 : J2 20 = chgJ J c m s 20 := c1 20 (by decide)
  have f19 : ∀ k, k < c → J2 19 k = pst J (t : Nat) k := by
    intro k hk
    rw [e19]
    unfold chgJ
    rw [up2_row (by decide), up2_row (by decide), ht]
    unfold pdJ
    rw [ov_row (by decide), ov_in hk]
    unfold pst
    rw [find_row (by decide) (by decide), find_row (by decide) (by decide)]
  have f20 : ∀ k, k < c → J2 20 k = J 14 k := by
    intro k hk
    rw [e20]
    unfold chgJ
    rw [up2_row (by decide), up2_row (by decide)]
    unfold pdJ
    rw [ov_in hk, find_row (by decide) (by decide)]
  have f182 : J2 18 2 = (c : Nat) := by rw [e18]; unfold chgJ; rw [up2_n _ _ _ _ (by omega), up2_s]
  have f184 : J2 18 4 = (t : Nat) := by rw [e18]; unfold chgJ; rw [up2_s]; exact ht
  have f183 : J2 18 3 = (s : Nat) := by
    rw [e18]; unfold chgJ
    rw [up2_n _ _ _ _ (by omega), up2_n _ _ _ _ (by omega), pdJ_row (by decide) (by decide), find_row (by decide) (by decide)]
    exact hp.2.2.1
  have hs3 : J 18 3 = (s : Nat) := hp.2.2.1
  -- a pin's step
  have hst : ∀ k, k < c → (J2 19 k).toNat = stp (J 13) s k t ∧ 0 ≤ J2 19 k ∧ J2 19 k < s := by
    intro k hk
    have g := hm.2.1 k hk
    have g2 := hts k hk
    rw [f19 k hk, stp_val ⟨g.1, g2⟩ hts2]
    unfold pst
    rw [hs3]
    split <;> omega
  have hsp : ∀ k, k < c → stp (tR (chgJ J c m s)) s k t = stp (J 13) s k t := by
    intro k hk
    unfold stp
    rw [show tR (chgJ J c m s) k = J 13 k by show chgJ J c m s 35 (2 + k) = _; rw [r35]; exact (hsm k hk).1]
  have hbp : ∀ k, k < c → bR (chgJ J c m s) k = J 14 k := fun k hk => by show chgJ J c m s 35 (102 + k) = _; rw [r35]; exact (hsm k hk).2
  refine drumlike_inv hI (fun x x1 x2 x3 x4 x5 x6 => by rw [c1 x x6]; exact chg_row x1 x2 x3 x4 x5) (fun k hk => by rw [c2 k (by omega) (by have := hp.2.2.2.2.1; omega), r35]) ⟨c, s, ⟨⟨f182, hm.1, f183, hp.2.2.2.1, hp.2.2.2.2.1, fun k hk => ?_⟩, fun p q hpq hq => ?_, ?_, ?_, fun i hi => ?_⟩⟩
  · show 0 ≤ J2 19 k ∧ J2 19 k < s ∧ 0 ≤ J2 20 k ∧ J2 20 k < 24
    have := hst k hk
    have g := hm.2.1 k hk
    rw [f20 k hk]
    exact ⟨this.2.1, this.2.2, g.2.2.1, g.2.2.2⟩
  · show ¬ ((J2 19 p).toNat = (J2 19 q).toNat ∧ (J2 20 p).toNat = (J2 20 q).toNat)
    have g1 := hm.2.1 p (by omega)
    have g2 := hm.2.1 q hq
    have k1 := hts p (by omega)
    have k2 := hts q hq
    have h3 := hm.2.2 p q hpq hq
    rw [(hst p (by omega)).1, (hst q hq).1, f20 p (by omega), f20 q hq, stp_val ⟨g1.1, k1⟩ hts2, stp_val ⟨g2.1, k2⟩ hts2]
    rintro ⟨z1, z2⟩
    split at z1 <;> split at z1 <;> omega
  · rw [c2 229 (by decide) (by omega), r35]; exact hM.pnr.1
  · show J2 35 230 = J2 18 4; rw [c3, f184]
  · show J2 35 (233 + i) = (pmq (fun p => (J2 19 p).toNat) (fun p => (J2 20 p).toNat) c i : Nat)
    rw [c4 i hi, pmS_q, pmq_cong (st := fun p => (J2 19 p).toNat) (bl := fun p => (J2 20 p).toNat) c (fun k hk => by
      rw [hsp k hk, hbp k hk, (hst k hk).1, f20 k hk]
      exact ⟨rfl, rfl⟩)]
/-- clappers: what both have struck -/
theorem clap_inv (hI : Inv n K J L R) (h1 : ∀ a, a ≠ 22 → a ≠ 36 → L2 a = L a) (h2 : ∀ k, 24 ≤ k → L2 36 k = L 36 k) (h3 : ∀ k, k < 24 → L2 36 k = L2 22 k) : Inv n K J L2 R := by
  obtain ⟨c, m, s, ⟨hA, hB, hC, hD, hE, hF⟩, hS⟩ := hI.2.2.2.2.2.1
  exact hI.upd hI.2.2.2.2.1 ⟨c, m, s, ⟨hA, hB, hC, hD, hE, h3⟩, hS⟩ (fun x hx => ⟨rfl, h1 x (by omega) (by omega)⟩) rfl (fun _ _ => rfl) h2
theorem end_inv (hI : Inv n K J L R) {a : Nat} (ha : (a : Int) ≤ J 1 1) : Inv n K (up2 (up2 J 1 1 (a : Int)) 34 4 (a : Int)) L R := by
  obtain ⟨c, m, s, hM, hS⟩ := hI.2.2.2.2.2.1
  obtain ⟨T, t1, t2, t3, t4⟩ := hI.2.2.2.2.1
  have ho : ∀ x, x ≠ 1 → x ≠ 34 → up2 (up2 J 1 1 (a : Int)) 34 4 (a : Int) x = J x := fun x a1 a2 => by rw [up2_row a2, up2_row a1]
  have e1 : up2 (up2 J 1 1 (a : Int)) 34 4 (a : Int) 1 1 = (a : Nat) := by rw [up2_row (by decide), up2_s]
  have e2 : up2 (up2 J 1 1 (a : Int)) 34 4 (a : Int) 34 4 = (a : Nat) := up2_s _ _ _ _
  generalize up2 (up2 J 1 1 (a : Int)) 34 4 (a : Int) = J2 at *
  refine hI.upd ⟨a, by omega, e1, e2, fun p hp => ?_⟩ ⟨c, m, s, hM.rows (fun x x1 x2 x3 => ho x (by omega) (by omega)) (fun k hk => by rw [ho 35 (by decide) (by decide)]) rfl (fun _ _ => rfl), hS.rows (by rw [ho 0 (by decide) (by decide)]) (by rw [ho 11 (by decide) (by decide)]) (by rw [ho 11 (by decide) (by decide)]) (ho 13 (by decide) (by decide)) (ho 14 (by decide) (by decide)) (ho 24 (by decide) (by decide)) (ho 25 (by decide) (by decide)) (ho 26 (by decide) (by decide))⟩ (fun x hx => ⟨ho x (by omega) (by omega), rfl⟩) (ho 37 (by decide) (by decide)) (fun k hk => by rw [ho 35 (by decide) (by decide)]) (fun _ _ => rfl)
  rw [ho 38 (by decide) (by decide), t4 p (by omega)]
  unfold bt
  rw [ho 2 (by decide) (by decide)]
theorem feed_inv (hI : Inv n K J L R) {a b c d e : Int} {T : Nat} (hT : J 1 1 = (T : Nat)) (h20 : T + 20 ≤ 1000) : Inv n K (fdR (fedJ J a b c d e) a b c d e T 20) L R := by
  obtain ⟨cc, m, s, hM, hS⟩ := hI.2.2.2.2.2.1
  obtain ⟨T', t1, t2, t3, t4⟩ := hI.2.2.2.2.1
  have eT : T' = T := by omega
  subst eT
  have ho : ∀ x, x ≠ 1 → x ≠ 2 → x ≠ 34 → x ≠ 38 → fdR (fedJ J a b c d e) a b c d e T' 20 x = J x := fun x x1 x2 x3 x4 => by rw [fdR_row x3 x4, fed_row x1 x2]
  have e1 : fdR (fedJ J a b c d e) a b c d e T' 20 1 1 = ((T' + 20 : Nat) : Int) := by rw [fdR_row (by decide) (by decide), fed_sz, hT]; omega
  have e2 : fdR (fedJ J a b c d e) a b c d e T' 20 34 4 = ((T' + 20 : Nat) : Int) := fdR_4 (by rw [fed_row (by decide) (by decide)]; exact t3) 20
  have e3 : ∀ p, fdR (fedJ J a b c d e) a b c d e T' 20 2 p = if T' ≤ p ∧ p < T' + 20 then bv (fdW a b c d e (p - T')) (3 - (p - T') % 4) else J 2 p := fun p => by rw [fdR_row (by decide) (by decide)]; exact fed_at hT
  have e4 : ∀ p, fdR (fedJ J a b c d e) a b c d e T' 20 38 p = if T' ≤ p ∧ p < T' + 20 then fdB a b c d e (p - T') else J 38 p := fun p => by rw [fdR_38 20 p, fed_row (by decide) (by decide)]
  generalize fdR (fedJ J a b c d e) a b c d e T' 20 = J2 at *
  refine hI.upd ⟨T' + 20, h20, e1, e2, fun p hp => ?_⟩ ⟨cc, m, s, hM.rows (fun x x1 x2 x3 => ho x (by omega) (by omega) (by omega) (by omega)) (fun k hk => by rw [ho 35 (by decide) (by decide) (by decide) (by decide)]) rfl (fun _ _ => rfl), hS.rows (by rw [ho 0 (by decide) (by decide) (by decide) (by decide)]) (by rw [ho 11 (by decide) (by decide) (by decide) (by decide)]) (by rw [ho 11 (by decide) (by decide) (by decide) (by decide)]) (ho 13 (by decide) (by decide) (by decide) (by decide)) (ho 14 (by decide) (by decide) (by decide) (by decide)) (ho 24 (by decide) (by decide) (by decide) (by decide)) (ho 25 (by decide) (by decide) (by decide) (by decide)) (ho 26 (by decide) (by decide) (by decide) (by decide))⟩ (fun x hx => ⟨ho x (by omega) (by omega) (by omega) (by omega), rfl⟩) (ho 37 (by decide) (by decide) (by decide) (by decide)) (fun k hk => by rw [ho 35 (by decide) (by decide) (by decide) (by decide)]) (fun _ _ => rfl)
  unfold bt
  rw [e3, e4]
  by_cases z : T' ≤ p ∧ p < T' + 20
  · rw [if_pos z, if_pos z, fdB_bt (by omega)]
  · rw [if_neg z, if_neg z, t4 p (by omega)]; rfl
end OPS2
