theorem and_bd (x : Int32) {k : Nat} (hk : k ≤ 255) : 0 ≤ (x &&& iI (k : Int)).toInt ∧ (x &&& iI (k : Int)).toInt ≤ k := by
  have e : (iI (k : Int)).toBitVec.toNat = k := by
    show ((BitVec.ofInt 32 (k : Int)).toNat) = k
    rw [BitVec.toNat_ofInt]
    omega
  have h1 : (x &&& iI (k : Int)).toBitVec.toNat ≤ k := by
    rw [Int32.toBitVec_and, BitVec.toNat_and, e]
    exact Nat.and_le_right
  have h2 : (x &&& iI (k : Int)).toInt = ((x &&& iI (k : Int)).toBitVec.toNat : Nat) := by
    rw [← Int32.toInt_toBitVec]
    exact BitVec.toInt_eq_toNat_of_lt (by omega)
  omega
/-- the text on both tapes -/
def txF (J : wJn) (T : Nat) : Nat → Int := fun p => if p < T then bt J p else -1
theorem txF_sg {J : wJn} {T : Nat} (h : T ≤ 1000) : Sg (txF J T) T := by
  refine ⟨h, fun p hp => ?_, fun p hp => ?_⟩
  · unfold txF; rw [if_neg (by omega)]
  · unfold txF
    rw [if_pos hp]
    unfold bt
    have := and_bd (iI (J 2 p)) (k := 255) (by omega)
    have e : iI ((255 : Nat) : Int) = iI 255 := rfl
    rw [e] at this
    omega
theorem txF_at {J : wJn} {T p : Nat} (h : p < T) : txF J T p = bt J p := if_pos h
section OPS3
variable {n : Nat} {K : wKd} {J J1 J2 : wJn} {L : wLn} {R : wRf}
theorem score_inv (hI : Inv n K J L R) {r : Flt ⊕ CS} {r2 : Flt ⊕ RS} {t : Nat} (hA : RdA J J1 r) (hP : ScP (scJ J1 r) J2 r2) (h1 : ∀ fl, r = .inl fl → r2 = .inl fl) (h2 : ∀ z, r = .inr z → WF t z ∧ ∃ lat la, r2 = .inr (rsOf z lat la)) (h3 : ∀ z, r = .inr z → StO z) : Inv n K J2 L R ∧ scR r = rscR r2 := by
  obtain ⟨c, m, s, ⟨hMA, hB, hC, hD, hE, hF⟩, hS⟩ := hI.2.2.2.2.2.1
  obtain ⟨a1, a2, a3⟩ := hA
  obtain ⟨p1, p2, p3, p4⟩ := hP
  rcases r with f | z
  · have er := h1 f rfl
    subst er
    refine ⟨?_, rfl⟩
    obtain ⟨b1, b2, b3⟩ := a2 f rfl
    obtain ⟨q1, q2, q3⟩ := p3 f rfl
    have hr : ∀ x, x ≠ 1 → x ≠ 11 → (x < 3 ∨ 10 < x) → x ≠ 34 → x ≠ 35 → ¬ (39 ≤ x ∧ x ≤ 44) → J2 x = J x := fun x x1 x2 x3 x4 x5 x6 => by
      rw [p1 x x4 x5 (by omega) (by omega) (by omega) (by omega) (by omega) (by omega)]
      show up2 (up2 (up2 J1 1 1 0) 11 4 (J1 3 1)) 11 5 (J1 3 2) x = _
      rw [up2_row x2, up2_row x2, up2_row x1]; exact a1 x x3
    have h11 : ∀ k, J2 11 k = up2 (up2 (up2 J1 1 1 0) 11 4 (J1 3 1)) 11 5 (J1 3 2) 11 k := fun k => by
      rw [p1 11 (by decide) (by decide) (by decide) (by decide) (by decide) (by decide) (by decide) (by decide)]; rfl
    have h11o : ∀ k, k ≠ 4 → k ≠ 5 → J2 11 k = J 11 k := fun k k1 k2 => by
      rw [h11, up2_n _ _ _ _ (by omega), up2_n _ _ _ _ (by omega), up2_row (by decide), a1 11 (by omega)]
    have c35 : ∀ k, scJ J1 (.inl f) 35 k = J 35 k := fun k => by
      show up2 (up2 (up2 J1 1 1 0) 11 4 (J1 3 1)) 11 5 (J1 3 2) 35 k = _
      rw [up2_row (by decide), up2_row (by decide), up2_row (by decide), a1 35 (by omega)]
    have h35 : ∀ k, k ≠ 231 → k ≠ 232 → J2 35 k = J 35 k := fun k k1 k2 => by rw [q3 k k1 k2, c35]
    have e11 : J2 1 1 = 0 := by
      rw [p1 1 (by decide) (by decide) (by decide) (by decide) (by decide) (by decide) (by decide) (by decide)]
      show up2 (up2 (up2 J1 1 1 0) 11 4 (J1 3 1)) 11 5 (J1 3 2) 1 1 = 0
      rw [up2_row (by decide), up2_row (by decide), up2_s]
    refine hI.upd ⟨0, by omega, e11, p2, fun p hp => absurd hp (by omega)⟩ ⟨c, m, s, ⟨hMA.rows (by rw [hr 12 (by decide) (by decide) (by decide) (by decide) (by decide) (by decide)]; exact ⟨rfl, rfl⟩) (hr 13 (by decide) (by decide) (by decide) (by decide) (by decide) (by decide)) (hr 14 (by decide) (by decide) (by decide) (by decide) (by decide) (by decide)) (fun k hk => h35 k (by omega) (by omega)), hB.rows (h11o 6 (by decide) (by decide)) (h11o 7 (by decide) (by decide)) (h35 202 (by decide) (by decide)) (h35 203 (by decide) (by decide)), hC.rows (by rw [hr 15 (by decide) (by decide) (by decide) (by decide) (by decide) (by decide)]) (hr 16 (by decide) (by decide) (by decide) (by decide) (by decide) (by decide)) (fun k k1 k2 => h35 k (by omega) (by omega)), hD.rows (hr 18 (by decide) (by decide) (by decide) (by decide) (by decide) (by decide)) (hr 19 (by decide) (by decide) (by decide) (by decide) (by decide) (by decide)) (hr 20 (by decide) (by decide) (by decide) (by decide) (by decide) (by decide)) (h35 229 (by decide) (by decide)) (h35 230 (by decide) (by decide)) (fun k k1 k2 => h35 k (by omega) (by omega)), ⟨?_, ?_⟩, hF⟩, hS.rows (by rw [hr 0 (by decide) (by decide) (by decide) (by decide) (by decide) (by decide)]) (h11o 6 (by decide) (by decide)) (h11o 7 (by decide) (by decide)) (hr 13 (by decide) (by decide) (by decide) (by decide) (by decide) (by decide)) (hr 14 (by decide) (by decide) (by decide) (by decide) (by decide) (by decide)) (hr 24 (by decide) (by decide) (by decide) (by decide) (by decide) (by decide)) (hr 25 (by decide) (by decide) (by decide) (by decide) (by decide) (by decide)) (hr 26 (by decide) (by decide) (by decide) (by decide) (by decide) (by decide))⟩ (fun x hx => ⟨hr x (by omega) (by omega) (by omega) (by omega) (by omega) (by omega), rfl⟩) (hr 37 (by decide) (by decide) (by decide) (by decide) (by decide) (by decide)) (fun k hk => h35 k (by omega) (by omega)) (fun _ _ => rfl)
    · show J2 35 231 = J2 11 4
      rw [q1, h11, up2_n _ _ _ _ (by omega), up2_s, b1]
    · show J2 35 232 = J2 11 5
      rw [q2, h11, up2_s, b2]
  · obtain ⟨hw, lat, la, er⟩ := h2 z rfl
    subst er
    refine ⟨?_, rfl⟩
    obtain ⟨b1, b2, b3, b4, b5⟩ := a3 z rfl
    obtain ⟨q1, q2, q3, q4, q5, q6⟩ := p4 _ rfl
    have q3 : J2 35 0 = (z.c : Nat) := q3
    have q4 : J2 35 1 = (z.tk : Nat) := q4
    have q5 : ∀ i, i < 100 → J2 35 (2 + i) = (if i < z.c then z.ft i else 0) ∧ J2 35 (102 + i) = (if i < z.c then z.fb i else 0) := q5
    have ho := h3 z rfl
    have hzc : z.c ≤ 100 := hw.2.2.2.2.1
    have hztk : z.tk ≤ 2063 := hw.2.2.2.1
    generalize hX : up2 (up2 (up2 J1 1 1 0) 11 4 (J1 3 1)) 11 5 (J1 3 2) = X at *
    have hsc : scJ J1 (.inr z) = up2 (cpSc X 12 4) 0 7 0 := by rw [← hX]; rfl
    rw [hsc] at p1 q6
    have hXr : ∀ x, x ≠ 1 → x ≠ 11 → X x = J1 x := fun x x1 x2 => by rw [← hX, up2_row x2, up2_row x2, up2_row x1]
    have sc := cpSc_a (J := X) (a := 12) (b := 4) (by omega)
    have hr : ∀ x, x ≠ 0 → x ≠ 1 → x ≠ 11 → ¬ (12 ≤ x ∧ x < 15) → (x < 3 ∨ 10 < x) → x ≠ 34 → x ≠ 35 → ¬ (39 ≤ x ∧ x ≤ 44) → J2 x = J x := fun x x0 x1 x2 x3 x4 x5 x6 x7 => by
      rw [p1 x x5 x6 (by omega) (by omega) (by omega) (by omega) (by omega) (by omega), up2_row x0, cpSc_o (by omega), hXr x x1 x2]
      exact a1 x x4
    have hs : ∀ x, x ≠ 0 → x < 30 → J2 x = cpSc X 12 4 x := fun x x0 x1 => by
      rw [p1 x (by omega) (by omega) (by omega) (by omega) (by omega) (by omega) (by omega) (by omega), up2_row x0]
    have h35 : ∀ k, 202 ≤ k → k ≠ 231 → k ≠ 232 → J2 35 k = J 35 k := fun k k0 k1 k2 => by
      rw [q6 k k0 k1 k2, up2_row (by decide), cpSc_o (by omega), hXr 35 (by decide) (by decide), a1 35 (by omega)]
    have h11 : ∀ k, J2 11 k = X 11 k := fun k => by rw [hs 11 (by decide) (by decide), cpSc_o (by omega)]
    have h11o : ∀ k, k ≠ 4 → k ≠ 5 → J2 11 k = J 11 k := fun k k1 k2 => by
      rw [h11, ← hX, up2_n _ _ _ _ (by omega), up2_n _ _ _ _ (by omega), up2_row (by decide), a1 11 (by omega)]
    have e11 : J2 1 1 = 0 := by
      rw [hs 1 (by decide) (by decide), cpSc_o (by omega), ← hX, up2_row (by decide), up2_row (by decide), up2_s]
    have e07 : J2 0 7 = 0 := by
      rw [p1 0 (by decide) (by decide) (by decide) (by decide) (by decide) (by decide) (by decide) (by decide), up2_s]
    have e122 : J2 12 2 = (z.c : Nat) := by rw [hs 12 (by decide) (by decide), sc.1.1, hXr 4 (by decide) (by decide)]; exact b3
    have e123 : J2 12 3 = (z.tk : Nat) := by rw [hs 12 (by decide) (by decide), sc.1.2, hXr 4 (by decide) (by decide)]; exact b4
    have e13 : ∀ i, i < z.c → J2 13 i = z.ft i ∧ J2 14 i = z.fb i := fun i hi => by
      have := sc.2 i (by omega)
      rw [hs 13 (by decide) (by decide), hs 14 (by decide) (by decide), this.1, this.2, hXr 5 (by decide) (by decide), hXr 6 (by decide) (by decide)]
      exact b5 i hi
    refine hI.upd ⟨0, by omega, e11, p2, fun p hp => absurd hp (by omega)⟩ ⟨z.c, m, s, ⟨⟨?_, e122, q3, ?_, fun i hi => ?_⟩, hB.rows (h11o 6 (by decide) (by decide)) (h11o 7 (by decide) (by decide)) (h35 202 (by decide) (by decide) (by decide)) (h35 203 (by decide) (by decide) (by decide)), hC.rows (by rw [hr 15 (by decide) (by decide) (by decide) (by decide) (by decide) (by decide) (by decide) (by decide)]) (hr 16 (by decide) (by decide) (by decide) (by decide) (by decide) (by decide) (by decide) (by decide)) (fun k k1 k2 => h35 k (by omega) (by omega) (by omega)), hD.rows (hr 18 (by decide) (by decide) (by decide) (by decide) (by decide) (by decide) (by decide) (by decide)) (hr 19 (by decide) (by decide) (by decide) (by decide) (by decide) (by decide) (by decide) (by decide)) (hr 20 (by decide) (by decide) (by decide) (by decide) (by decide) (by decide) (by decide) (by decide)) (h35 229 (by decide) (by decide) (by decide)) (h35 230 (by decide) (by decide) (by decide)) (fun k k1 k2 => h35 k (by omega) (by omega) (by omega)), ⟨?_, ?_⟩, hF⟩, SetOK.no e07⟩ (fun x hx => ⟨hr x (by omega) (by omega) (by omega) (by omega) (by omega) (by omega) (by omega) (by omega), rfl⟩) (hr 37 (by decide) (by decide) (by decide) (by decide) (by decide) (by decide) (by decide) (by decide)) (fun k hk => h35 k (by omega) (by omega) (by omega)) (fun _ _ => rfl)
    · show SMu z.c (J2 13) (J2 14)
      refine ⟨hzc, fun i hi => ?_, fun i j hij hj => ?_⟩
      · rw [(e13 i hi).1, (e13 i hi).2]
        have := ho.1 i hi
        omega
      · rw [(e13 i (by omega)).1, (e13 i (by omega)).2, (e13 j hj).1, (e13 j hj).2]
        exact ho.2 i j hij hj
    · show J2 35 1 = J2 12 3
      rw [q4, e123]
    · show J2 35 (2 + i) = J2 13 i ∧ J2 35 (102 + i) = J2 14 i
      have := q5 i (by omega)
      rw [if_pos hi, if_pos hi] at this
      rw [this.1, this.2, (e13 i hi).1, (e13 i hi).2]
      exact ⟨rfl, rfl⟩
    · show J2 35 231 = J2 11 4
      rw [q1, h11, ← hX, up2_n _ _ _ _ (by omega), up2_s, b1]
    · show J2 35 232 = J2 11 5
      rw [q2, h11, ← hX, up2_s, b2]
theorem LyM.cong {K2 : wKd} {R2 : wRf} {b : Nat} (h : LyM K R b) (hk : ∀ i, b ≤ i → i < b + 12 → K2 i = K i ∧ R2 i = R i) : LyM K2 R2 b := by
  have g : ∀ i, i < 12 → K2 (b + i) = K (b + i) ∧ R2 (b + i) = R (b + i) := fun i hi => hk (b + i) (by omega) (by omega)
  have g0 := hk b (by omega) (by omega)
  have e : ∀ i j, b + i + j = b + (i + j) := fun i j => Nat.add_assoc b i j
  unfold LyM LySc LyTo LyDr LyCl at h ⊢
  simp only [e] at h ⊢
  simp only [Nat.reduceAdd] at h ⊢
  rw [g0.1, g0.2, (g 1 (by omega)).1, (g 1 (by omega)).2, (g 2 (by omega)).1, (g 3 (by omega)).1, (g 4 (by omega)).1, (g 4 (by omega)).2, (g 5 (by omega)).1, (g 6 (by omega)).1, (g 7 (by omega)).1, (g 7 (by omega)).2, (g 8 (by omega)).1, (g 9 (by omega)).1, (g 10 (by omega)).1, (g 10 (by omega)).2, (g 11 (by omega)).1]
  exact h
theorem MEq.to {J3 : wJn} {L2 L3 : wLn} {a b : Nat} (h : MEq J L b J2 L2 a) (hr : ∀ i, a ≤ i → i < a + 12 → J3 i = J2 i) (hl : L3 (a + 11) = L2 (a + 11)) : MEq J L b J3 L3 a := by
  unfold MEq at h ⊢
  rw [hr (a + 1) (by omega) (by omega), hr (a + 2) (by omega) (by omega), hr (a + 3) (by omega) (by omega), hr (a + 4) (by omega) (by omega), hr (a + 5) (by omega) (by omega), hr (a + 7) (by omega) (by omega), hr (a + 8) (by omega) (by omega), hr (a + 9) (by omega) (by omega), hr a (by omega) (by omega), hl]
  exact h
theorem image_inv (hI : Inv n K J L R) {j n2 : Nat} {K2 : wKd} {I2 : wIn} {L1 : wLn} {R2 : wRf} {r2 : Option Value} (hj : j < 2) (hP : ImP j n K J L R r2 n2 K2 I2 L1 R2) : ∃ J1 : wJn, r2 = some (.int (iI 1)) ∧ I2 = zw J1 ∧ Ly K2 R2 ∧ Inv n2 K2 (up2 (cpR J1 0 (2296 * (j + 1)) 2296) 37 j 1) (cpRL L1 0 (24 * (j + 1)) 24) R2 := by
  obtain ⟨J1, b, v1, v2, v3, v4, v5, v6, v7, v8, v9, v10⟩ := hP
  obtain ⟨i1, i2, i3, i4, i5, ⟨c, m, s, hM, hS⟩, i7⟩ := id hI
  refine ⟨J1, v1, v2, ?_⟩
  have hb48 : 48 ≤ b := by
    rcases v3 with ⟨q1, q2⟩ | ⟨q1, q2, q3⟩
    · exact (i3 j b hj q1).2.1
    · omega
  have hnn : n ≤ n2 := by rcases v3 with ⟨q1, q2⟩ | ⟨q1, q2, q3⟩ <;> omega
  have hbn : b + 12 ≤ n2 := by
    rcases v3 with ⟨q1, q2⟩ | ⟨q1, q2, q3⟩
    · have := (i3 j b hj q1).2.2; omega
    · omega
  have hLy : Ly K2 R2 := ⟨fun i hi => by rw [v4 i (by omega)]; exact i1.1 i hi, fun i hi k => by rw [v5 i (by omega) hi.2]; exact i1.2 i hi k⟩
  have hlow : ∀ i, i < 48 → J1 i = J i ∧ L1 i = L i := fun i hi => v10 i (by omega) (by omega)
  -- other images lie apart
  have hoth : ∀ j2 b2, j2 < 2 → j2 ≠ j → R 23 j2 = some b2 → b2 + 12 ≤ n ∧ (b2 + 12 ≤ b ∨ b + 12 ≤ b2) := by
    intro j2 b2 h1 h2 h3
    have h4 := (i3 j2 b2 h1 h3).2.2
    refine ⟨h4, ?_⟩
    rcases v3 with ⟨q1, q2⟩ | ⟨q1, q2, q3⟩
    · rcases Nat.eq_zero_or_pos j with e | e
      · have e2 : j2 = 1 := by omega
        subst e e2
        have := i4 b b2 q1 h3
        omega
      · have e1 : j = 1 := by omega
        have e2 : j2 = 0 := by omega
        subst e1 e2
        have := i4 b2 b h3 q1
        omega
    · omega
  have hJo : ∀ x, x ≠ 35 → x ≠ 37 → up2 (cpR J1 0 (2296 * (j + 1)) 2296) 37 j 1 x = J1 x := fun x x1 x2 => by
    rw [up2_row x2]
    funext k
    unfold cpR
    rw [if_neg (fun q => x1 q.1)]
  have h35 : ∀ k, up2 (cpR J1 0 (2296 * (j + 1)) 2296) 37 j 1 35 k = if 2296 * (j + 1) ≤ k ∧ k < 2296 * (j + 1) + 2296 then J 35 (k - 2296 * (j + 1)) else J 35 k := fun k => by
    rw [up2_row (by decide)]
    unfold cpR
    rw [(hlow 35 (by omega)).1]
    by_cases z : 2296 * (j + 1) ≤ k ∧ k < 2296 * (j + 1) + 2296
    · rw [if_pos ⟨rfl, z⟩, if_pos z, Nat.zero_add]
    · rw [if_neg (fun q => z q.2), if_neg z]
  have h37 : ∀ k, up2 (cpR J1 0 (2296 * (j + 1)) 2296) 37 j 1 37 k = if k = j then 1 else J 37 k := fun k => by
    by_cases z : k = j
    · subst z; rw [up2_s, if_pos rfl]
    · rw [up2_n _ _ _ _ (by omega), if_neg z]
      unfold cpR
      rw [if_neg (fun q => absurd q.1 (by decide)), (hlow 37 (by omega)).1]
  have hLo : ∀ x, x ≠ 36 → cpRL L1 0 (24 * (j + 1)) 24 x = L1 x := fun x x1 => by
    funext k
    unfold cpRL
    rw [if_neg (fun q => x1 q.1)]
  have h36 : ∀ k, cpRL L1 0 (24 * (j + 1)) 24 36 k = if 24 * (j + 1) ≤ k ∧ k < 24 * (j + 1) + 24 then L 36 (k - 24 * (j + 1)) else L 36 k := fun k => by
    unfold cpRL
    rw [(hlow 36 (by omega)).2]
    by_cases z : 24 * (j + 1) ≤ k ∧ k < 24 * (j + 1) + 24
    · rw [if_pos ⟨rfl, z⟩, if_pos z, Nat.zero_add]
    · rw [if_neg (fun q => z q.2), if_neg z]
  generalize up2 (cpR J1 0 (2296 * (j + 1)) 2296) 37 j 1 = J2 at *
  generalize cpRL L1 0 (24 * (j + 1)) 24 = L2 at *
  have hJl : ∀ x, x < 48 → x ≠ 35 → x ≠ 37 → J2 x = J x := fun x x0 x1 x2 => by rw [hJo x x1 x2]; exact (hlow x x0).1
  refine ⟨hLy, hLy, by omega, ?_, ?_, i5.rows (by rw [hJl 1 (by decide) (by decide) (by decide)]) (hJl 2 (by decide) (by decide) (by decide)) (by rw [hJl 34 (by decide) (by decide) (by decide)]) (hJl 38 (by decide) (by decide) (by decide)), ⟨c, m, s, hM.rows (fun x x1 x2 x3 => hJl x (by omega) (by omega) (by omega)) (fun k hk => by rw [h35, if_neg (by omega)]) (by rw [hLo 22 (by decide)]; exact (hlow 22 (by omega)).2) (fun k hk => by rw [h36, if_neg (by omega)]), hS.rows (by rw [hJl 0 (by decide) (by decide) (by decide)]) (by rw [hJl 11 (by decide) (by decide) (by decide)]) (by rw [hJl 11 (by decide) (by decide) (by decide)]) (hJl 13 (by decide) (by decide) (by decide)) (hJl 14 (by decide) (by decide) (by decide)) (hJl 24 (by decide) (by decide) (by decide)) (hJl 25 (by decide) (by decide) (by decide)) (hJl 26 (by decide) (by decide) (by decide))⟩, fun j2 hj2 => ?_⟩
  · intro j2 b2 h1 h2
    by_cases e : j2 = j
    · subst e
      rw [v6] at h2
      injection h2 with h2
      subst h2
      exact ⟨v8, hb48, hbn⟩
    · rw [v7 j2 e] at h2
      have g := i3 j2 b2 h1 h2
      exact ⟨g.1.cong (fun i q1 q2 => ⟨v4 i (by omega), v5 i (by omega) (by omega)⟩), g.2.1, by omega⟩
  · intro b0 b1 h0 h1
    rcases Nat.eq_zero_or_pos j with e | e
    · subst e
      rw [v6] at h0
      injection h0 with h0
      subst h0
      rw [v7 1 (by decide)] at h1
      have := hoth 1 b1 (by decide) (by decide) h1
      omega
    · have e1 : j = 1 := by omega
      subst e1
      rw [v6] at h1
      injection h1 with h1
      subst h1
      rw [v7 0 (by decide)] at h0
      have := hoth 0 b0 (by decide) (by decide) h0
      omega
  · by_cases e : j2 = j
    · subst e
      refine Or.inr ⟨b, v6, by rw [h37, if_pos rfl], c, m, s, MR.copy hM (v9.to (fun i q1 q2 => hJo i (by omega) (by omega)) (hLo (b + 11) (by omega))) (fun k hk => ?_) (fun k hk => ?_)⟩
      · show J2 35 (2296 * (j2 + 1) + k) = J 35 k
        rw [h35, if_pos (by omega), show 2296 * (j2 + 1) + k - 2296 * (j2 + 1) = k by omega]
      · show L2 36 (24 * (j2 + 1) + k) = L 36 k
        rw [h36, if_pos (by omega), show 24 * (j2 + 1) + k - 24 * (j2 + 1) = k by omega]
    · rcases i7 j2 hj2 with ⟨q1, q2⟩ | ⟨b2, q1, q2, c2, m2, s2, q3⟩
      · exact Or.inl ⟨by rw [v7 j2 e]; exact q1, by rw [h37, if_neg e]; exact q2⟩
      · have ho := hoth j2 b2 hj2 e q1
        have hb2 := (i3 j2 b2 hj2 q1).2.1
        refine Or.inr ⟨b2, by rw [v7 j2 e]; exact q1, by rw [h37, if_neg e]; exact q2, c2, m2, s2, q3.copy (MEq.rows (fun i w1 w2 => by rw [hJo (b2 + i) (by omega) (by omega)]; exact (v10 (b2 + i) (by omega) (by omega)).1) (by rw [hLo (b2 + 11) (by omega)]; exact (v10 (b2 + 11) (by omega) (by omega)).2)) (fun k hk => ?_) (fun k hk => ?_)⟩
        · show J2 35 (2296 * (j2 + 1) + k) = J 35 (2296 * (j2 + 1) + k)
          rw [h35, if_neg (by omega)]
        · show L2 36 (24 * (j2 + 1) + k) = L 36 (24 * (j2 + 1) + k)
          rw [h36, if_neg (by omega)]
theorem back_inv (hI : Inv n K J L R) {j b : Nat} (hj : j < 2) (hb : R 23 j = some b) : Inv n K (cpR (up2 (cpMa J 11 b) 0 7 0) (2296 * (j + 1)) 0 2296) (cpRL (cpyL L (b + 11) 22 24) (24 * (j + 1)) 0 24) R := by
  have hb48 := (hI.2.2.1 j b hj hb).2.1
  obtain ⟨c, m, s, hM⟩ : ∃ c m s, MR J L b (fun k => J 35 (2296 * (j + 1) + k)) (fun k => L 36 (24 * (j + 1) + k)) c m s := by
    rcases hI.2.2.2.2.2.2 j hj with ⟨q1, -⟩ | ⟨b2, q1, -, c, m, s, q3⟩
    · rw [q1] at hb; cases hb
    · rw [q1] at hb
      injection hb with hb
      subst hb
      exact ⟨c, m, s, q3⟩
  have hJo : ∀ x, x ≠ 35 → x ≠ 0 → cpR (up2 (cpMa J 11 b) 0 7 0) (2296 * (j + 1)) 0 2296 x = cpMa J 11 b x := fun x x1 x2 => by
    funext k
    unfold cpR
    rw [if_neg (fun q => x1 q.1), up2_row x2]
  have h35 : ∀ k, cpR (up2 (cpMa J 11 b) 0 7 0) (2296 * (j + 1)) 0 2296 35 k = if k < 2296 then J 35 (2296 * (j + 1) + k) else J 35 k := fun k => by
    unfold cpR
    rw [up2_row (by decide), cpMa_o (by omega)]
    by_cases z : k < 2296
    · rw [if_pos ⟨rfl, by omega, by omega⟩, if_pos z, Nat.sub_zero]
    · rw [if_neg (by omega), if_neg z]
  have h07 : cpR (up2 (cpMa J 11 b) 0 7 0) (2296 * (j + 1)) 0 2296 0 7 = 0 := by
    unfold cpR
    rw [if_neg (by omega), up2_s]
  have hLo : ∀ x, x ≠ 36 → cpRL (cpyL L (b + 11) 22 24) (24 * (j + 1)) 0 24 x = cpyL L (b + 11) 22 24 x := fun x x1 => by
    funext k
    unfold cpRL
    rw [if_neg (fun q => x1 q.1)]
  have h36 : ∀ k, cpRL (cpyL L (b + 11) 22 24) (24 * (j + 1)) 0 24 36 k = if k < 24 then L 36 (24 * (j + 1) + k) else L 36 k := fun k => by
    unfold cpRL
    rw [cpyL_o (by decide)]
    by_cases z : k < 24
    · rw [if_pos ⟨rfl, by omega, by omega⟩, if_pos z, Nat.sub_zero]
    · rw [if_neg (by omega), if_neg z]
  generalize cpR (up2 (cpMa J 11 b) 0 7 0) (2296 * (j + 1)) 0 2296 = J2 at *
  generalize cpRL (cpyL L (b + 11) 22 24) (24 * (j + 1)) 0 24 = L2 at *
  have hJ : ∀ x, x ≠ 35 → x ≠ 0 → ¬ (11 ≤ x ∧ x < 23) → J2 x = J x := fun x x1 x2 x3 => by rw [hJo x x1 x2, cpMa_o (by omega)]
  refine hI.upd (hI.2.2.2.2.1.rows (by rw [hJ 1 (by decide) (by decide) (by decide)]) (hJ 2 (by decide) (by decide) (by decide)) (by rw [hJ 34 (by decide) (by decide) (by decide)]) (hJ 38 (by decide) (by decide) (by decide))) ⟨c, m, s, MR.copy hM ((cpMa_a (J := J) (L := L) (a := 11) (b := b) (by omega)).to (fun i q1 q2 => hJo i (by omega) (by omega)) (hLo 22 (by decide))) (fun k hk => by rw [h35, if_pos hk]) (fun k hk => by rw [h36, if_pos hk]), SetOK.no h07⟩ (fun x hx => ⟨hJ x (by omega) (by omega) (by omega), by rw [hLo x (by omega), cpyL_o (by omega)]⟩) (hJ 37 (by decide) (by decide) (by decide)) (fun k hk => by rw [h35, if_neg (by omega)]) (fun k hk => by rw [h36, if_neg (by omega)])
end OPS3
