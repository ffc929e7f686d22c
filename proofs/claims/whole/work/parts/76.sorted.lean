/-! ===== STRIKES come in their order ===== -/
def StO (x : CS) : Prop := (∀ i, i < x.c → (0 ≤ x.ft i ∧ x.ft i < x.tk) ∧ 0 ≤ x.fb i ∧ x.fb i < 24) ∧ ∀ i j, i < j → j < x.c → x.ft i < x.ft j ∨ (x.ft i = x.ft j ∧ x.fb i < x.fb j)
theorem new_lt {y : Int} {m a b tk l i j : Nat} (hij : i < j) (hj : j < addOf y m l) : ftI y tk i < ftI y tk j ∨ (ftI y tk i = ftI y tk j ∧ fbI y m a b i < fbI y m a b j) := by
  unfold addOf at hj
  unfold ftI fbI
  by_cases e : y = 116
  · rw [if_pos e] at hj
    rw [if_pos e, if_pos e]
    exact Or.inl (by omega)
  · rw [if_neg e] at hj
    rw [if_neg e, if_neg e, if_neg e, if_neg e]
    obtain ⟨x, x1, x2, x3, x4⟩ := rnk_get (m := m) (i := i) (by omega)
    obtain ⟨z, z1, z2, z3, z4⟩ := rnk_get (m := m) (i := j) hj
    rw [x4, z4]
    refine Or.inr ⟨rfl, ?_⟩
    rcases Nat.lt_or_ge x z with q | q
    · omega
    · have := popc_mn m (a := z) x q; omega
theorem new_ge {y : Int} {tk i : Nat} : (tk : Int) ≤ ftI y tk i := by
  unfold ftI
  split <;> omega
theorem sto_step {s : Nat → Int} {t : Nat} {x y : CS} (hs : Sg s t) (hw : WF t x) (hx : StO x) (h : cstep s t x = .inr (some y)) : StO y := by
  rcases cstep_cases h with ⟨hd, v, e, ho, rfl⟩ | ⟨hc, e, l, hst, hr, rfl⟩ | ⟨hc, e, l, hst, hr, rfl⟩ | ⟨hi, htk, m, a, b, v, e, hit, hf, rfl⟩
  · exact hx
  · exact hx
  · exact hx
  · obtain ⟨x1, x2⟩ := hx
    have hlt := hs.lt (p := nb s t x.p) (by unfold IsI at hi; omega)
    have k := itm_ok hs hlt hit
    have hl := lenOf_bd ⟨k.2.2.2.2.1, k.2.2.2.2.2.1⟩ hw.2.2.1
    refine ⟨fun i hi2 => ?_, fun i j hij hj => ?_⟩
    · have hi3 : i < x.c + addOf (s (nb s t x.p)) m (lenOf v x.len) := hi2
      show (0 ≤ exF x.ft x.c (ftI _ x.tk) i ∧ exF x.ft x.c (ftI _ x.tk) i < ((x.tk + lenOf v x.len : Nat) : Int)) ∧ 0 ≤ exF x.fb x.c (fbI _ m a b) i ∧ exF x.fb x.c (fbI _ m a b) i < 24
      unfold exF
      by_cases z : i < x.c
      · rw [if_pos z, if_pos z]
        have := x1 i z
        omega
      · rw [if_neg z, if_neg z]
        exact new_bd hs hlt hit hl.1 (i := i - x.c) (by omega)
    · have hj3 : j < x.c + addOf (s (nb s t x.p)) m (lenOf v x.len) := hj
      show exF x.ft x.c (ftI _ x.tk) i < exF x.ft x.c (ftI _ x.tk) j ∨ (exF x.ft x.c (ftI _ x.tk) i = exF x.ft x.c (ftI _ x.tk) j ∧ exF x.fb x.c (fbI _ m a b) i < exF x.fb x.c (fbI _ m a b) j)
      unfold exF
      by_cases zj : j < x.c
      · rw [if_pos (show i < x.c by omega), if_pos zj, if_pos (show i < x.c by omega), if_pos zj]
        exact x2 i j hij zj
      · by_cases zi : i < x.c
        · rw [if_pos zi, if_neg zj]
          have := (x1 i zi).1.2
          have h2 := new_ge (y := s (nb s t x.p)) (tk := x.tk) (i := j - x.c)
          exact Or.inl (by omega)
        · rw [if_neg zi, if_neg zj, if_neg zi, if_neg zj]
          exact new_lt (i := i - x.c) (j := j - x.c) (l := lenOf v x.len) (by omega) (by omega)
theorem crun_sto {s : Nat → Int} {t : Nat} (hs : Sg s t) : ∀ (f : Nat) (x : CS) (z : CS), crun s t f x = some (.inr z) → WF t x → StO x → StO z
  | 0, x, z, h, _, _ => by cases h
  | f + 1, x, z, h, hw, hx => by
    rw [crun] at h
    rcases hc : cstep s t x with e | o
    · rw [hc] at h; cases (Option.some.inj h)
    · rcases o with _ | y
      · rw [hc] at h
        have := Option.some.inj h
        injection this with this
        subst this
        exact hx
      · rw [hc] at h
        exact crun_sto hs f y z h (wf_step hs hw hc) (sto_step hs hw hx hc)
theorem sto0 : StO cs0 := ⟨fun i h => absurd h (Nat.not_lt_zero i), fun i j _ h => absurd h (Nat.not_lt_zero j)⟩
/-! ===== what the class and the reference have in common ===== -/
section RELDEF
/-- STRIKES -/
def MA (J : wJn) (b : Nat) (g : Nat → Int) (c : Nat) : Prop := SMu c (J (b + 2)) (J (b + 3)) ∧ J (b + 1) 2 = (c : Nat) ∧ g 0 = (c : Nat) ∧ g 1 = J (b + 1) 3 ∧ ∀ i, i < c → g (2 + i) = J (b + 2) i ∧ g (102 + i) = J (b + 3) i
/-- REACH and PRICE -/
def MBf (J : wJn) (b : Nat) (g : Nat → Int) : Prop := (1 ≤ J b 6 ∧ J b 6 ≤ 24) ∧ (0 ≤ J b 7 ∧ J b 7 ≤ 10000) ∧ g 202 = J b 6 ∧ g 203 = J b 7
/-- tails and quarrels -/
def MC (J : wJn) (b : Nat) (g : Nat → Int) : Prop := (∀ i, i < 24 → (1 ≤ J (b + 5) i ∧ J (b + 5) i ≤ 60) ∧ g (204 + i) = J (b + 5) i) ∧ g 228 = J (b + 4) 1
/-- THE DRUM -/
def MD (J : wJn) (b : Nat) (g : Nat → Int) (m s : Nat) : Prop := (J (b + 7) 2 = (m : Nat) ∧ m ≤ 100 ∧ J (b + 7) 3 = (s : Nat) ∧ 1 ≤ s ∧ s ≤ 2063 ∧ ∀ p, p < m → 0 ≤ J (b + 8) p ∧ J (b + 8) p < s ∧ 0 ≤ J (b + 9) p ∧ J (b + 9) p < 24) ∧ Dis (fun p => (J (b + 8) p).toNat) (fun p => (J (b + 9) p).toNat) m ∧ g 229 = (s : Nat) ∧ g 230 = J (b + 7) 4 ∧ ∀ i, i < s → g (233 + i) = (pmq (fun p => (J (b + 8) p).toNat) (fun p => (J (b + 9) p).toNat) m i : Nat)
/-- the latest FAULT -/
def ME (J : wJn) (b : Nat) (g : Nat → Int) : Prop := g 231 = J b 4 ∧ g 232 = J b 5
/-- clappers -/
def MF (L : wLn) (b : Nat) (h : Nat → Int64) : Prop := ∀ k, k < 24 → h k = L (b + 11) k
def MR (J : wJn) (L : wLn) (b : Nat) (g : Nat → Int) (h : Nat → Int64) (c m s : Nat) : Prop := MA J b g c ∧ MBf J b g ∧ MC J b g ∧ MD J b g m s ∧ ME J b g ∧ MF L b h
end RELDEF
theorem SMu.cong {c : Nat} {tk bl tk2 bl2 : Nat → Int} (h : SMu c tk bl) (h2 : SameM c tk bl tk2 bl2) : SMu c tk2 bl2 := by
  refine ⟨h.1, fun i hi => by rw [(h2 i hi).1, (h2 i hi).2]; exact h.2.1 i hi, fun i j hij hj => ?_⟩
  rw [(h2 i (by omega)).1, (h2 i (by omega)).2, (h2 j hj).1, (h2 j hj).2]
  exact h.2.2 i j hij hj
theorem Dis.cong {st bl st2 bl2 : Nat → Nat} {m : Nat} (h : Dis st bl m) (h2 : ∀ i, i < m → st2 i = st i ∧ bl2 i = bl i) : Dis st2 bl2 m := by
  intro p q hpq hq
  rw [(h2 p (by omega)).1, (h2 p (by omega)).2, (h2 q hq).1, (h2 q hq).2]
  exact h p q hpq hq
/-- what is copied on both sides is common again -/
theorem MR.copy {J J2 : wJn} {L L2 : wLn} {b a : Nat} {g g2 : Nat → Int} {h h2 : Nat → Int64} {c m s : Nat} (hr : MR J L b g h c m s) (he : MEq J L b J2 L2 a) (hg : ∀ k, k < 2296 → g2 k = g k) (hh : ∀ k, k < 24 → h2 k = h k) : MR J2 L2 a g2 h2 c m s := by
  obtain ⟨⟨a1, a2, a3, a4, a5⟩, ⟨b1, b2, b3, b4⟩, ⟨c1, c2⟩, ⟨⟨d1, d2, d3, d4, d5, d6⟩, d7, d8, d9, d10⟩, ⟨e1, e2⟩, f1⟩ := hr
  obtain ⟨⟨q1, q2⟩, q3, q4, q5, ⟨q6, q7, q8⟩, q9, ⟨q10, q11, q12, q13⟩, q14⟩ := he
  have hc := a1.1
  refine ⟨⟨a1.cong (fun i hi => q3 i (by omega)), by rw [q1]; exact a2, by rw [hg 0 (by omega)]; exact a3, by rw [hg 1 (by omega), q2]; exact a4, fun i hi => ?_⟩, ⟨by rw [q12]; exact b1, by rw [q13]; exact b2, by rw [hg 202 (by omega), q12]; exact b3, by rw [hg 203 (by omega), q13]; exact b4⟩, ⟨fun i hi => ?_, by rw [hg 228 (by omega), q4]; exact c2⟩, ⟨⟨by rw [q6]; exact d1, d2, by rw [q7]; exact d3, d4, d5, fun p hp => ?_⟩, d7.cong (fun i hi => by rw [(q9 i (by omega)).1, (q9 i (by omega)).2]; exact ⟨rfl, rfl⟩), by rw [hg 229 (by omega)]; exact d8, by rw [hg 230 (by omega), q8]; exact d9, fun i hi => ?_⟩, ⟨by rw [hg 231 (by omega), q10]; exact e1, by rw [hg 232 (by omega), q11]; exact e2⟩, fun k hk => by rw [hh k hk, q14 k hk]; exact f1 k hk⟩
  · rw [hg (2 + i) (by omega), hg (102 + i) (by omega), (q3 i (by omega)).1, (q3 i (by omega)).2]; exact a5 i hi
  · rw [hg (204 + i) (by omega), q5 i hi]; exact c1 i hi
  · rw [(q9 p (by omega)).1, (q9 p (by omega)).2]; exact d6 p hp
  · have hpq : pmq (fun p => (J2 (a + 8) p).toNat) (fun p => (J2 (a + 9) p).toNat) m = pmq (fun p => (J (b + 8) p).toNat) (fun p => (J (b + 9) p).toNat) m := pmq_cong m (fun p hp => by rw [(q9 p (by omega)).1, (q9 p (by omega)).2]; exact ⟨rfl, rfl⟩)
    rw [hg (233 + i) (by omega), d10 i hi, hpq]
theorem MEq.rows {J J2 : wJn} {L L2 : wLn} {b : Nat} (h : ∀ i, i < 10 → i ≠ 6 → J2 (b + i) = J (b + i)) (hl : L2 (b + 11) = L (b + 11)) : MEq J L b J2 L2 b := by
  have h0 : J2 b = J b := h 0 (by omega) (by omega)
  rw [MEq, h 1 (by omega) (by omega), h 2 (by omega) (by omega), h 3 (by omega) (by omega), h 4 (by omega) (by omega), h 5 (by omega) (by omega), h 7 (by omega) (by omega), h 8 (by omega) (by omega), h 9 (by omega) (by omega), h0, hl]
  exact ⟨⟨rfl, rfl⟩, fun _ _ => ⟨rfl, rfl⟩, rfl, fun _ _ => rfl, ⟨rfl, rfl, rfl⟩, fun _ _ => ⟨rfl, rfl⟩, ⟨rfl, rfl, rfl, rfl⟩, fun _ _ => rfl⟩
/-- the tapes -/
def TapeOK (J : wJn) : Prop := ∃ T : Nat, T ≤ 1000 ∧ J 1 1 = (T : Nat) ∧ J 34 4 = (T : Nat) ∧ ∀ p, p < T → J 38 p = bt J p
theorem TapeOK.rows {J J2 : wJn} (h : TapeOK J) (h1 : J2 1 1 = J 1 1) (h2 : J2 2 = J 2) (h3 : J2 34 4 = J 34 4) (h4 : J2 38 = J 38) : TapeOK J2 := by
  obtain ⟨T, t1, t2, t3, t4⟩ := h
  refine ⟨T, t1, by rw [h1]; exact t2, by rw [h3]; exact t3, fun p hp => ?_⟩
  rw [h4, t4 p hp]
  unfold bt
  rw [h2]
theorem SetOK.rows {J J2 : wJn} {c : Nat} (h : SetOK J c) (h0 : J2 0 7 = J 0 7) (h6 : J2 11 6 = J 11 6) (h7 : J2 11 7 = J 11 7) (e13 : J2 13 = J 13) (e14 : J2 14 = J 14) (e24 : J2 24 = J 24) (e25 : J2 25 = J 25) (e26 : J2 26 = J 26) : SetOK J2 c := by
  refine ⟨by rw [h0]; exact h.1, fun q => ?_⟩
  rw [h0] at q
  obtain ⟨s1, s2, s3, s4, s5, s6, s7, s8⟩ := h.2 q
  have eL : LJ J2 = LJ J := by unfold LJ; rw [e13, e14, e24]
  have eR : RJ J2 = RJ J := by unfold RJ; rw [e13, e14, e24]
  have eM : mJ J2 = mJ J := by unfold mJ; rw [e13, e14, e24]
  rw [h6, h7]
  refine ⟨fun _ _ _ _ _ => rfl, by rw [e24]; exact s2, by rw [e24]; exact s3, ?_, ?_, ?_, ?_, ?_⟩
  · unfold oJ; rw [eL, eR, e24]; exact s4
  · unfold ouJ; rw [eL, eR, e24]; exact s5
  · unfold whJ; rw [eL, eR, e24, e25]; exact s6
  · unfold goJ; rw [eL, eR, eM, e24, e26]; exact s7
  · unfold goJ; rw [eL, eR, eM, e24, e26]; exact s8
theorem SetOK.no {J : wJn} {c : Nat} (h : J 0 7 = 0) : SetOK J c := ⟨Or.inl h, fun q => absurd q (by omega)⟩
/-- what stands between two calls -/
def Inv (n : Nat) (K : wKd) (J : wJn) (L : wLn) (R : wRf) : Prop :=
  Ly K R ∧ 48 ≤ n ∧ Img n K R ∧ (∀ b0 b1, R 23 0 = some b0 → R 23 1 = some b1 → b0 + 12 ≤ b1 ∨ b1 + 12 ≤ b0) ∧ TapeOK J ∧
  (∃ c m s, MR J L 11 (J 35) (L 36) c m s ∧ SetOK J c) ∧
  (∀ j, j < 2 → (R 23 j = none ∧ J 37 j = 0) ∨ ∃ b, R 23 j = some b ∧ J 37 j = 1 ∧ ∃ c m s, MR J L b (fun k => J 35 (2296 * (j + 1) + k)) (fun k => L 36 (24 * (j + 1) + k)) c m s)
theorem Inv.upd {n : Nat} {K : wKd} {J J2 : wJn} {L L2 : wLn} {R : wRf} (h : Inv n K J L R) (hT : TapeOK J2) (hM : ∃ c m s, MR J2 L2 11 (J2 35) (L2 36) c m s ∧ SetOK J2 c) (h1 : ∀ a, 48 ≤ a → J2 a = J a ∧ L2 a = L a) (h2 : J2 37 = J 37) (h3 : ∀ k, 2296 ≤ k → J2 35 k = J 35 k) (h4 : ∀ k, 24 ≤ k → L2 36 k = L 36 k) : Inv n K J2 L2 R := by
  obtain ⟨a1, a2, a3, a4, a5, a6, a7⟩ := h
  refine ⟨a1, a2, a3, a4, hT, hM, fun j hj => ?_⟩
  rcases a7 j hj with ⟨q1, q2⟩ | ⟨b, q1, q2, c, m, s, q3⟩
  · exact Or.inl ⟨q1, by rw [h2]; exact q2⟩
  · have hb := (a3 j b hj q1).2.1
    refine Or.inr ⟨b, q1, by rw [h2]; exact q2, c, m, s, q3.copy (MEq.rows (fun i _ _ => (h1 (b + i) (by omega)).1) (h1 (b + 11) (by omega)).2) (fun k hk => h3 _ (by omega)) (fun k hk => h4 _ (by omega))⟩
