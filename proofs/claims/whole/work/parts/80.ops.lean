/-! ===== what each call leaves in common ===== -/
section PROJ
variable {J : wJn} {L : wLn} {c m s : Nat}
abbrev MM (J : wJn) (L : wLn) (c m s : Nat) : Prop := MR J L 11 (J 35) (L 36) c m s
abbrev pmJ (J : wJn) (m : Nat) : Nat → Nat := pmq (fun p => (J 19 p).toNat) (fun p => (J 20 p).toNat) m
theorem MR.mus (h : MM J L c m s) : Mus J c := ⟨h.1.2.1, h.1.1.1, h.1.1.2.1⟩
theorem MR.smu (h : MM J L c m s) : SMu c (J 13) (J 14) := h.1.1
theorem MR.same (h : MM J L c m s) : SameM c (J 13) (J 14) (tR J) (bR J) := fun i hi => h.1.2.2.2.2 i hi
theorem MR.mur (h : MM J L c m s) : MuR J c := ⟨h.1.2.2.1, h.1.1.1, fun i hi => by
  rw [(h.1.2.2.2.2 i hi).1, (h.1.2.2.2.2 i hi).2]; exact h.1.1.2.1 i hi⟩
theorem MR.r1 (h : MM J L c m s) : 1 ≤ J 11 6 ∧ J 11 6 ≤ 24 := h.2.1.1
theorem MR.r2 (h : MM J L c m s) : 0 ≤ J 11 7 ∧ J 11 7 ≤ 10000 := h.2.1.2.1
theorem MR.e202 (h : MM J L c m s) : J 35 202 = J 11 6 := h.2.1.2.2.1
theorem MR.e203 (h : MM J L c m s) : J 35 203 = J 11 7 := h.2.1.2.2.2
theorem MR.rpr (h : MM J L c m s) : RPR J := ⟨by rw [h.e202]; exact h.r1, by rw [h.e203]; exact h.r2⟩
theorem MR.tls (h : MM J L c m s) : ∀ i, i < 24 → J 35 (204 + i) = J 16 i := fun i hi => (h.2.2.1.1 i hi).2
theorem MR.tai (h : MM J L c m s) : Tai J := fun i hi => (h.2.2.1.1 i hi).1
theorem MR.tar (h : MM J L c m s) : TaR J := fun i hi => by rw [h.tls i hi]; exact h.tai i hi
theorem MR.qb (h : MM J L c m s) : J 35 228 = J 15 1 := h.2.2.1.2
theorem MR.pin (h : MM J L c m s) : Pin J m s := h.2.2.2.1.1
theorem MR.dis (h : MM J L c m s) : Dis (fun p => (J 19 p).toNat) (fun p => (J 20 p).toNat) m := h.2.2.2.1.2.1
theorem MR.pnr (h : MM J L c m s) : PnR J s (pmJ J m) := by
  obtain ⟨⟨d1, d2, d3, d4, d5, d6⟩, d7, d8, d9, d10⟩ := h.2.2.2.1
  refine ⟨d8, d4, d5, fun i hi => ⟨d10 i hi, pmq_lt (fun p hp => ?_) m i (Nat.le_refl m)⟩⟩
  have := d6 p hp
  show (J 20 p).toNat < 24
  have h3 : 0 ≤ J 20 p ∧ J 20 p < 24 := ⟨this.2.2.1, this.2.2.2⟩
  omega
theorem MR.pq (h : MM J L c m s) : PQ J m s (pmJ J m) := ⟨fun _ _ => rfl, h.dis⟩
theorem MR.e230 (h : MM J L c m s) : J 35 230 = J 18 4 := h.2.2.2.1.2.2.2.1
theorem MR.e231 (h : MM J L c m s) : J 35 231 = J 11 4 := h.2.2.2.2.1.1
theorem MR.e232 (h : MM J L c m s) : J 35 232 = J 11 5 := h.2.2.2.2.1.2
theorem MR.cl (h : MM J L c m s) : ∀ k, k < 24 → L 36 k = L 22 k := h.2.2.2.2.2
theorem MR.rows {J2 : wJn} {L2 : wLn} (h : MM J L c m s) (h1 : ∀ a, 11 ≤ a → a ≤ 20 → a ≠ 17 → J2 a = J a) (h2 : ∀ k, k < 2296 → J2 35 k = J 35 k) (h3 : L2 22 = L 22) (h4 : ∀ k, k < 24 → L2 36 k = L 36 k) : MM J2 L2 c m s :=
  MR.copy h (MEq.rows (fun i hi hi2 => h1 (11 + i) (by omega) (by omega) (by omega)) h3) h2 h4
end PROJ
/-- THE SETTING of both -/
theorem set_eq {J : wJn} {L : wLn} {c m s : Nat} (h : MM J L c m s) (hs : Sets J J c (J 11 6) (J 11 7)) : J 24 2 = oR J c c 0 0 ∧ J 24 3 = (outF c (LR J) (RR J) (J 35 203) c : Nat) ∧ (∀ i, i < c → J 25 i = (wR J c i : Nat)) ∧ J 26 0 = gR2 J c 0 c ∧ J 26 1 = gR2 J c 1 c := by
  obtain ⟨s1, s2, s3, s4, s5, s6, s7, s8⟩ := hs
  have hL : ∀ k l r, k < c → l ≤ k → r ≤ k → LJ J k l r = LR J k l r := fun k l r a b d => by
    show LCc (J 13) (J 14) (J 24 6) k l r = LCx (tR J) (bR J) (J 35 202) k l r
    rw [s2, h.e202]; exact LC_eq h.smu h.same a b d
  have hR : ∀ k l r, k < c → l ≤ k → r ≤ k → RJ J k l r = RR J k l r := fun k l r a b d => by
    show RCc (J 13) (J 14) (J 24 6) k l r = RCx (tR J) (bR J) (J 35 202) k l r
    rw [s2, h.e202]; exact RC_eq h.smu h.same a b d
  have hm : ∀ l k, k < c → l ≤ k → mJ J l k = mvF (tR J) (bR J) (J 35 202) l k := fun l k a b => by
    show mvF (J 13) (J 14) (J 24 6) l k = _
    rw [s2, h.e202, mvF_cong h.same a (by omega)]
  have hp : J 24 7 = J 35 203 := by rw [s3, h.e203]
  refine ⟨?_, ?_, fun i hi => ?_, ?_, ?_⟩
  · rw [s4]; show opt c (LJ J) (RJ J) (J 24 7) c 0 0 = _
    rw [hp]; exact opt_cong hL hR c 0 0 (Nat.le_refl c) (by omega) (by omega)
  · rw [s5]; show ((outF c (LJ J) (RJ J) (J 24 7) c : Nat) : Int) = _
    rw [hp, out_cong hL hR (Nat.le_refl c)]
  · rw [s6 i hi]; show ((whoF c (LJ J) (RJ J) (J 24 7) i : Nat) : Int) = _
    rw [hp, who_cong hL hR (by omega)]
  · rw [s7]; show goneF c (LJ J) (RJ J) (J 24 7) (mJ J) 0 c = _
    rw [hp]; exact gone_cong hL hR hm 0 c (Nat.le_refl c)
  · rw [s8]; show goneF c (LJ J) (RJ J) (J 24 7) (mJ J) 1 c = _
    rw [hp]; exact gone_cong hL hR hm 1 c (Nat.le_refl c)
section OPS
variable {n : Nat} {K : wKd} {J J1 J2 : wJn} {L : wLn} {R : wRf} {c m s : Nat}
/-- behind theSetting() -/
theorem ts_MM (h : MM J L c m s) (ht : TS J J2 c) : MM J2 L c m s := h.rows (fun a h1 h2 _ => ht.1 a (by omega) (by omega) (by omega) (by omega) (by omega)) (fun k _ => by rw [ht.1 35 (by decide) (by decide) (by decide) (by decide) (by decide)]) rfl (fun _ _ => rfl)
theorem ts_set (ht : TS J J2 c) : SetOK J2 c := ⟨Or.inr ht.2.2.1, fun _ => ht.2.2.2⟩
theorem ts_inv (hI : Inv n K J L R) (h : MM J L c m s) (ht : TS J J2 c) : Inv n K J2 L R :=
  hI.upd (hI.2.2.2.2.1.rows (by rw [ht.1 1 (by decide) (by decide) (by decide) (by decide) (by decide)]) (ht.1 2 (by decide) (by decide) (by decide) (by decide) (by decide)) (by rw [ht.1 34 (by decide) (by decide) (by decide) (by decide) (by decide)]) (ht.1 38 (by decide) (by decide) (by decide) (by decide) (by decide))) ⟨c, m, s, ts_MM h ht, ts_set ht⟩ (fun a ha => ⟨ht.1 a (by omega) (by omega) (by omega) (by omega) (by omega), rfl⟩) (ht.1 37 (by decide) (by decide) (by decide) (by decide) (by decide)) (fun k _ => by rw [ht.1 35 (by decide) (by decide) (by decide) (by decide) (by decide)]) (fun _ _ => rfl)
/-- cells that nothing rests on -/
theorem free_inv (hI : Inv n K J L R) (hr : ∀ a, a ≠ 17 → a ≠ 30 → a ≠ 31 → a ≠ 45 → a ≠ 46 → a ≠ 47 → J2 a = J a) : Inv n K J2 L R := by
  obtain ⟨c, m, s, hM, hS⟩ := hI.2.2.2.2.2.1
  refine hI.upd (hI.2.2.2.2.1.rows (by rw [hr 1 (by decide) (by decide) (by decide) (by decide) (by decide) (by decide)]) (hr 2 (by decide) (by decide) (by decide) (by decide) (by decide) (by decide)) (by rw [hr 34 (by decide) (by decide) (by decide) (by decide) (by decide) (by decide)]) (hr 38 (by decide) (by decide) (by decide) (by decide) (by decide) (by decide))) ⟨c, m, s, hM.rows (fun a h1 h2 h3 => hr a h3 (by omega) (by omega) (by omega) (by omega) (by omega)) (fun k _ => by rw [hr 35 (by decide) (by decide) (by decide) (by decide) (by decide) (by decide)]) rfl (fun _ _ => rfl), hS.rows ?_ ?_ ?_ ?_ ?_ ?_ ?_ ?_⟩ (fun a ha => ⟨hr a (by omega) (by omega) (by omega) (by omega) (by omega) (by omega), rfl⟩) (hr 37 (by decide) (by decide) (by decide) (by decide) (by decide) (by decide)) (fun k _ => by rw [hr 35 (by decide) (by decide) (by decide) (by decide) (by decide) (by decide)]) (fun _ _ => rfl)
  · rw [hr 0 (by decide) (by decide) (by decide) (by decide) (by decide) (by decide)]
  · rw [hr 11 (by decide) (by decide) (by decide) (by decide) (by decide) (by decide)]
  · rw [hr 11 (by decide) (by decide) (by decide) (by decide) (by decide) (by decide)]
  · exact hr 13 (by decide) (by decide) (by decide) (by decide) (by decide) (by decide)
  · exact hr 14 (by decide) (by decide) (by decide) (by decide) (by decide) (by decide)
  · exact hr 24 (by decide) (by decide) (by decide) (by decide) (by decide) (by decide)
  · exact hr 25 (by decide) (by decide) (by decide) (by decide) (by decide) (by decide)
  · exact hr 26 (by decide) (by decide) (by decide) (by decide) (by decide) (by decide)
theorem st_inv (hI : Inv n K J L R) (ht : StR J J2 c c) : Inv n K J2 L R := free_inv hI (fun a _ _ _ a4 a5 a6 => ht.1 a a4 a5 a6)
theorem fists_inv (hI : Inv n K J L R) {a b : Int} (h1 : 1 ≤ a ∧ a ≤ 24 ∧ 0 ≤ b ∧ b ≤ 10000) : Inv n K (up2 (up2 (up2 (up2 (up2 J 11 6 a) 11 7 b) 0 7 0) 35 202 a) 35 203 b) L R := by
  obtain ⟨c, m, s, hM, hS⟩ := hI.2.2.2.2.2.1
  have ho : ∀ x, x ≠ 11 → x ≠ 0 → x ≠ 35 → up2 (up2 (up2 (up2 (up2 J 11 6 a) 11 7 b) 0 7 0) 35 202 a) 35 203 b x = J x := fun x a1 a2 a3 => by rw [up2_row a3, up2_row a3, up2_row a2, up2_row a1, up2_row a1]
  have h35 : ∀ k, k ≠ 202 → k ≠ 203 → up2 (up2 (up2 (up2 (up2 J 11 6 a) 11 7 b) 0 7 0) 35 202 a) 35 203 b 35 k = J 35 k := fun k k1 k2 => by rw [up2_n _ _ _ _ (by omega), up2_n _ _ _ _ (by omega), up2_row (by decide), up2_row (by decide), up2_row (by decide)]
  have h11 : ∀ k, k ≠ 6 → k ≠ 7 → up2 (up2 (up2 (up2 (up2 J 11 6 a) 11 7 b) 0 7 0) 35 202 a) 35 203 b 11 k = J 11 k := fun k k1 k2 => by rw [up2_row (by decide), up2_row (by decide), up2_row (by decide), up2_n _ _ _ _ (by omega), up2_n _ _ _ _ (by omega)]
  have e6 : up2 (up2 (up2 (up2 (up2 J 11 6 a) 11 7 b) 0 7 0) 35 202 a) 35 203 b 11 6 = a := by rw [up2_row (by decide), up2_row (by decide), up2_row (by decide), up2_n _ _ _ _ (by omega), up2_s]
  have e7 : up2 (up2 (up2 (up2 (up2 J 11 6 a) 11 7 b) 0 7 0) 35 202 a) 35 203 b 11 7 = b := by rw [up2_row (by decide), up2_row (by decide), up2_row (by decide), up2_s]
  have e202 : up2 (up2 (up2 (up2 (up2 J 11 6 a) 11 7 b) 0 7 0) 35 202 a) 35 203 b 35 202 = a := by rw [up2_n _ _ _ _ (by omega), up2_s]
  have e203 : up2 (up2 (up2 (up2 (up2 J 11 6 a) 11 7 b) 0 7 0) 35 202 a) 35 203 b 35 203 = b := up2_s _ _ _ _
  have e07 : up2 (up2 (up2 (up2 (up2 J 11 6 a) 11 7 b) 0 7 0) 35 202 a) 35 203 b 0 7 = 0 := by rw [up2_row (by decide), up2_row (by decide), up2_s]
  generalize up2 (up2 (up2 (up2 (up2 J 11 6 a) 11 7 b) 0 7 0) 35 202 a) 35 203 b = J2 at *
  obtain ⟨⟨a1, a2, a3, a4, a5⟩, -, ⟨c1, c2⟩, ⟨d1, d7, d8, d9, d10⟩, ⟨f1, f2⟩, g1⟩ := hM
  have r12 := ho 12 (by decide) (by decide) (by decide)
  have r13 := ho 13 (by decide) (by decide) (by decide)
  have r14 := ho 14 (by decide) (by decide) (by decide)
  have r15 := ho 15 (by decide) (by decide) (by decide)
  have r16 := ho 16 (by decide) (by decide) (by decide)
  have r18 := ho 18 (by decide) (by decide) (by decide)
  have r19 := ho 19 (by decide) (by decide) (by decide)
  have r20 := ho 20 (by decide) (by decide) (by decide)
  refine hI.upd (hI.2.2.2.2.1.rows (by rw [ho 1 (by decide) (by decide) (by decide)]) (ho 2 (by decide) (by decide) (by decide)) (by rw [ho 34 (by decide) (by decide) (by decide)]) (ho 38 (by decide) (by decide) (by decide))) ⟨c, m, s, ⟨⟨?_, ?_, ?_, ?_, ?_⟩, ⟨?_, ?_, ?_, ?_⟩, ⟨?_, ?_⟩, ⟨?_, ?_, ?_, ?_, ?_⟩, ⟨?_, ?_⟩, g1⟩, SetOK.no e07⟩ (fun x hx => ⟨ho x (by omega) (by omega) (by omega), rfl⟩) (ho 37 (by decide) (by decide) (by decide)) (fun k hk => h35 k (by omega) (by omega)) (fun _ _ => rfl)
  · show SMu c (J2 13) (J2 14); rw [r13, r14]; exact a1
  · show J2 12 2 = _; rw [r12]; exact a2
  · rw [h35 0 (by decide) (by decide)]; exact a3
  · show J2 35 1 = J2 12 3; rw [h35 1 (by decide) (by decide), r12]; exact a4
  · intro i hi
    have hc := a1.1
    show J2 35 (2 + i) = J2 13 i ∧ J2 35 (102 + i) = J2 14 i
    rw [h35 (2 + i) (by omega) (by omega), h35 (102 + i) (by omega) (by omega), r13, r14]; exact a5 i hi
  · show 1 ≤ J2 11 6 ∧ J2 11 6 ≤ 24; omega
  · show 0 ≤ J2 11 7 ∧ J2 11 7 ≤ 10000; omega
  · show J2 35 202 = J2 11 6; omega
  · show J2 35 203 = J2 11 7; omega
  · intro i hi
    show (1 ≤ J2 16 i ∧ J2 16 i ≤ 60) ∧ J2 35 (204 + i) = J2 16 i
    rw [r16, h35 (204 + i) (by omega) (by omega)]; exact c1 i hi
  · show J2 35 228 = J2 15 1; rw [h35 228 (by decide) (by decide), r15]; exact c2
  · show J2 18 2 = _ ∧ _ ∧ J2 18 3 = _ ∧ _ ∧ _ ∧ ∀ p, p < m → 0 ≤ J2 19 p ∧ J2 19 p < s ∧ 0 ≤ J2 20 p ∧ J2 20 p < 24
    rw [r18, r19, r20]; exact d1
  · show Dis (fun p => (J2 19 p).toNat) (fun p => (J2 20 p).toNat) m
    rw [r19, r20]; exact d7
  · rw [h35 229 (by decide) (by decide)]; exact d8
  · show J2 35 230 = J2 18 4; rw [h35 230 (by decide) (by decide), r18]; exact d9
  · intro i hi
    show J2 35 (233 + i) = (pmq (fun p => (J2 19 p).toNat) (fun p => (J2 20 p).toNat) m i : Nat)
    rw [h35 (233 + i) (by omega) (by omega), r19, r20]; exact d10 i hi
  · show J2 35 231 = J2 11 4; rw [h35 231 (by decide) (by decide), h11 4 (by decide) (by decide)]; exact f1
  · show J2 35 232 = J2 11 5; rw [h35 232 (by decide) (by decide), h11 5 (by decide) (by decide)]; exact f2
end OPS
