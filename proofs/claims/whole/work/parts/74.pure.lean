/-! ===== sounds and quarrels of both ===== -/
theorem srF_cong {c : Nat} {tk bl tk2 bl2 : Nat → Int} (h : SameM c tk bl tk2 bl2) {k : Nat} (hk : k < c) {tail : Int} : ∀ j, j ≤ c → srF tk2 bl2 k tail j = srF tk bl k tail j
  | 0, _ => rfl
  | j + 1, hj => by
    simp only [srF]
    rw [srF_cong h hk j (by omega), (h j (by omega)).1, (h j (by omega)).2, (h k hk).1, (h k hk).2]
theorem srF_no {tk bl : Nat → Int} {k : Nat} {tail : Int} : ∀ i, (∀ j, k < j → j < i → ¬ bl j = bl k) → srF tk bl k tail i = tail
  | 0, _ => rfl
  | i + 1, h => by
    simp only [srF]
    rw [srF_no i (fun j h1 h2 => h j h1 (by omega)), if_neg (fun q => h i q.1 (by omega) q.2.1)]
theorem srF_yes {c : Nat} {tk bl : Nat → Int} (hm : SMu c tk bl) {k i : Nat} {tail : Int} (hki : k < i) (hb : bl i = bl k) (hno : ∀ j, k < j → j < i → ¬ bl j = bl k) : ∀ d, i + 1 + d ≤ c → srF tk bl k tail (i + 1 + d) = min tail (tk i - tk k)
  | 0, h => by
    show srF tk bl k tail (i + 1) = _
    simp only [srF]
    rw [srF_no i hno]
    by_cases q : tk i - tk k < tail
    · rw [if_pos ⟨hki, hb, q⟩]; omega
    · rw [if_neg (fun z => q z.2.2)]; omega
  | d + 1, h => by
    have ih := srF_yes hm hki hb hno d (by omega) (tail := tail)
    show srF tk bl k tail (i + 1 + d + 1) = _
    simp only [srF]
    rw [ih]
    have := hm.2.2 i (i + 1 + d) (by omega) (by omega)
    rw [if_neg (by omega)]
theorem slF_srF {c : Nat} {tk bl : Nat → Int} (hm : SMu c tk bl) {k : Nat} {tail : Int} : ∀ d i, i + d = c → k < i → (∀ j, k < j → j < i → ¬ bl j = bl k) → slF tk bl tail k d i = srF tk bl k tail c
  | 0, i, h, hk, hno => by
    rw [slF, show c = i by omega, srF_no i hno]
  | d + 1, i, h, hk, hno => by
    rw [slF]
    by_cases q : bl i = bl k
    · rw [if_pos q, ← srF_yes hm hk q hno d (by omega), show i + 1 + d = c by omega]
    · rw [if_neg q]
      exact slF_srF hm d (i + 1) (by omega) (by omega) (fun j h1 h2 => by
        by_cases z : j = i
        · subst z; exact q
        · exact hno j h1 (by omega))
theorem snd_eq {J : wJn} {c k : Nat} (hm : SMu c (J 13) (J 14)) (h : SameM c (J 13) (J 14) (tR J) (bR J)) (ht : ∀ i, i < 24 → J 35 (204 + i) = J 16 i) (hk : k < c) : sndC J c k = sndR J c k := by
  have g := hm.2.1 k hk
  have e : J 35 (204 + (bR J k).toNat) = J 16 (J 14 k).toNat := by rw [(h k hk).2]; exact ht _ (by omega)
  unfold sndC sndR
  rw [e, srF_cong h hk c (Nat.le_refl c)]
  exact slF_srF hm (c - (k + 1)) (k + 1) (by omega) (by omega) (fun j h1 h2 => absurd h1 (by omega))
theorem quar_eq {J : wJn} {c : Nat} (hm : SMu c (J 13) (J 14)) (h : SameM c (J 13) (J 14) (tR J) (bR J)) (ht : ∀ i, i < 24 → J 35 (204 + i) = J 16 i) (hq : J 35 228 = J 15 1) : qouC (lnJ J c) c c = qouR J c c := by
  unfold qouC qouR
  refine sumN_cong c (fun a ha => ?_)
  unfold qinC qinR
  refine sumN_cong c (fun b hb => ?_)
  by_cases hab : a < b
  · rw [if_pos hab, if_pos hab]
    unfold qvC qvR
    have r13 : lnJ J c 13 = J 13 := ov_row (by decide)
    have r14 : lnJ J c 14 = J 14 := ov_row (by decide)
    have r15 : lnJ J c 15 = J 15 := ov_row (by decide)
    have ra : lnJ J c 17 a = sndC J c a := ov_in ha
    have rb : lnJ J c 17 b = sndC J c b := ov_in hb
    have hcan : canQ (lnJ J c) a b = canR J a b := by
      unfold canQ canR
      rw [r14, r15, (h a ha).2, (h b hb).2, hq, show (J 14 b - J 14 a).natAbs = (J 14 a - J 14 b).natAbs by omega]
    have htg : tog (lnJ J c) a b = max 0 (min (tR J a + sndR J c a) (tR J b + sndR J c b) - tR J b) := by
      unfold tog
      rw [r13, ra, rb, snd_eq hm h ht ha, snd_eq hm h ht hb, (h a ha).1, (h b hb).1]
    rw [hcan, htg]
  · rw [if_neg hab, if_neg hab]
/-! ===== pins of both ===== -/
def pmq (st bl : Nat → Nat) : Nat → Nat → Nat
  | 0 => fun _ => 0
  | k + 1 => fun i => if i = st k then pmq st bl k i ||| 2 ^ bl k else pmq st bl k i
def Dis (st bl : Nat → Nat) (m : Nat) : Prop := ∀ p q, p < q → q < m → ¬ (st p = st q ∧ bl p = bl q)
theorem pmq_cong {st bl st2 bl2 : Nat → Nat} : ∀ k, (∀ i, i < k → st2 i = st i ∧ bl2 i = bl i) → pmq st2 bl2 k = pmq st bl k
  | 0, _ => rfl
  | k + 1, h => by
    funext i
    simp only [pmq]
    rw [pmq_cong k (fun i hi => h i (by omega)), (h k (by omega)).1, (h k (by omega)).2]
theorem pmq_bit (st bl : Nat → Nat) (i b : Nat) : ∀ k, (pmq st bl k i).testBit b = true ↔ ∃ p, p < k ∧ st p = i ∧ bl p = b
  | 0 => by simp [pmq]
  | k + 1 => by
    have ih := pmq_bit st bl i b k
    simp only [pmq]
    by_cases e : i = st k
    · rw [if_pos e, or_bit, Bool.or_eq_true, ih, decide_eq_true_eq]
      constructor
      · rintro (⟨p, h1, h2⟩ | h)
        · exact ⟨p, by omega, h2⟩
        · exact ⟨k, by omega, e.symm, h⟩
      · rintro ⟨p, h1, h2, h3⟩
        by_cases z : p = k
        · subst z; exact Or.inr h3
        · exact Or.inl ⟨p, by omega, h2, h3⟩
    · rw [if_neg e, ih]
      constructor
      · rintro ⟨p, h1, h2⟩
        exact ⟨p, by omega, h2⟩
      · rintro ⟨p, h1, h2, h3⟩
        by_cases z : p = k
        · subst z; exact absurd h2.symm e
        · exact ⟨p, by omega, h2, h3⟩
theorem pmq_new {st bl : Nat → Nat} {k m : Nat} (hd : Dis st bl m) (hk : k < m) : (pmq st bl k (st k)).testBit (bl k) = false := by
  rcases h : (pmq st bl k (st k)).testBit (bl k) with _ | _
  · rfl
  · obtain ⟨p, h1, h2⟩ := (pmq_bit st bl (st k) (bl k) k).mp h
    exact absurd h2 (hd p k h1 hk)
theorem pmq_lt {st bl : Nat → Nat} {m : Nat} (hb : ∀ p, p < m → bl p < 24) : ∀ k i, k ≤ m → pmq st bl k i < 2 ^ 24
  | 0, i, _ => by simp [pmq]
  | k + 1, i, h => by
    have ih := pmq_lt (st := st) hb k i (by omega)
    simp only [pmq]
    split
    · exact Nat.or_lt_two_pow ih (Nat.pow_lt_pow_right (by decide) (hb k (by omega)))
    · exact ih
theorem sumN_1 {f g : Nat → Int} {j : Nat} (hj : g j = f j + 1) (ho : ∀ i, i ≠ j → g i = f i) : ∀ n, sumN g n = sumN f n + (if j < n then 1 else 0)
  | 0 => by simp [sumN]
  | n + 1 => by
    simp only [sumN]
    rw [sumN_1 hj ho n]
    by_cases e : n = j
    · subst e; rw [hj, if_neg (by omega), if_pos (by omega)]; omega
    · rw [ho n e]
      by_cases h : j < n
      · rw [if_pos h, if_pos (by omega)]; omega
      · rw [if_neg h, if_neg (by omega)]; omega
theorem cnt_t {P : Nat → Bool} {k : Nat} (h : P k = true) : cntN P (k + 1) = cntN P k + 1 := by
  have hs : cntN P (k + 1) = cntN P k + (if P k = true then 1 else 0) := rfl
  rw [hs, if_pos h]
theorem cnt_f {P : Nat → Bool} {k : Nat} (h : P k = false) : cntN P (k + 1) = cntN P k := by
  have hs : cntN P (k + 1) = cntN P k + (if P k = true then 1 else 0) := rfl
  rw [hs, h]; rfl
theorem cntN_1 {f g : Nat → Bool} {j : Nat} (h1 : f j = false) (h2 : g j = true) (ho : ∀ i, i ≠ j → g i = f i) : ∀ n, cntN g n = cntN f n + (if j < n then 1 else 0)
  | 0 => by simp [cntN]
  | n + 1 => by
    have ih := cntN_1 h1 h2 ho n
    by_cases e : n = j
    · subst e
      rw [cnt_t h2, cnt_f h1, ih, if_neg (Nat.lt_irrefl n), if_pos (Nat.lt_succ_self n)]
    · have hi : (if j < n + 1 then 1 else 0) = (if j < n then 1 else 0 : Nat) := by
        by_cases h : j < n
        · rw [if_pos h, if_pos (by omega)]
        · rw [if_neg h, if_neg (by omega)]
      have hg := ho n e
      rw [hi]
      rcases hf : f n with _ | _
      · rw [hf] at hg; rw [cnt_f hg, cnt_f hf, ih]
      · rw [hf] at hg; rw [cnt_t hg, cnt_t hf, ih]; omega
/-- as many pins as were put in -/
theorem pins_eq {st bl : Nat → Nat} {m s : Nat} (hd : Dis st bl m) (hb : ∀ p, p < m → st p < s ∧ bl p < 24) : ∀ k, k ≤ m → pnF (pmq st bl k) s = k
  | 0, _ => by
    unfold pnF
    rw [sumN_0 s (fun i _ => by show ((popc 0 24 : Nat) : Int) = 0; decide)]; rfl
  | k + 1, h => by
    have ih := pins_eq hd hb k (by omega)
    have hk := hb k (by omega)
    have hn := pmq_new hd (show k < m by omega)
    unfold pnF at ih ⊢
    rw [sumN_1 (f := fun i => (popc (pmq st bl k i) 24 : Nat)) (j := st k) ?_ ?_ s, ih, if_pos hk.1]
    · omega
    · simp only [pmq]
      rw [if_pos trivial, popc_or hn, if_pos hk.2]; omega
    · intro i hi
      simp only [pmq]
      rw [if_neg hi]
/-- and as many of each BELL -/
theorem bells_eq {st bl : Nat → Nat} {m s b : Nat} (hd : Dis st bl m) (hb : ∀ p, p < m → st p < s ∧ bl p < 24) : ∀ k, k ≤ m → cntN (fun i => (pmq st bl k i).testBit b) s = cntN (fun p => decide (bl p = b)) k
  | 0, _ => by
    have : ∀ n, cntN (fun i => (pmq st bl 0 i).testBit b) n = 0 := by
      intro n
      induction n with
      | zero => rfl
      | succ n ih => simp only [cntN]; rw [ih]; simp [pmq]
    exact this s
  | k + 1, h => by
    have ih := bells_eq (b := b) hd hb k (by omega)
    have hk := hb k (by omega)
    have hn := pmq_new hd (show k < m by omega)
    simp only [cntN]
    by_cases e : bl k = b
    · subst e
      rw [cntN_1 (f := fun i => (pmq st bl k i).testBit (bl k)) (j := st k) hn ?_ ?_ s, ih, if_pos hk.1]
      · simp
      · simp only [pmq]
        rw [if_pos trivial, or_bit]; simp
      · intro i hi
        simp only [pmq]
        rw [if_neg hi]
    · rw [cntN_cong s (q := fun i => (pmq st bl k i).testBit b), ih]
      · simp [e]
      · intro i hi
        simp only [pmq]
        by_cases z : i = st k
        · rw [if_pos z, or_bit]; simp [e]
        · rw [if_neg z]
theorem pmS_q {tk bl : Nat → Int} {s t : Nat} : ∀ k, pmS tk bl s t k = pmq (fun k => stp tk s k t) (fun k => (bl k).toNat) k
  | 0 => rfl
  | k + 1 => by
    funext i
    simp only [pmS, pmq]
    rw [pmS_q k]
/-! clappers -/
theorem pdL_at {L : wLn} {bl : Nat → Int} (b : Nat) : ∀ k, pdL L bl k 22 b = L 22 b + Int64.ofNat (cntN (fun p => decide ((bl p).toNat = b)) k)
  | 0 => by simp [pdL, cntN]
  | k + 1 => by
    have ih := pdL_at (L := L) (bl := bl) b k
    show up2 (pdL L bl k) 22 (bl k).toNat (pdL L bl k 22 (bl k).toNat + 1) 22 b = _
    by_cases e : b = (bl k).toNat
    · rw [cnt_t (decide_eq_true e.symm), Int64.ofNat_add, ← Int64.add_assoc, ← ih, ← e, up2_s]; rfl
    · rw [cnt_f (decide_eq_false (fun q => e q.symm)), ← ih, up2_n _ _ _ _ (by omega)]
theorem pdL_row {L : wLn} {bl : Nat → Int} {a : Nat} (h : a ≠ 22) : ∀ k, pdL L bl k a = L a
  | 0 => rfl
  | k + 1 => by simp only [pdL]; rw [up2_row h, pdL_row h k]
theorem pbR_at {L : wLn} {m b : Nat} : ∀ k, pbR L m k 36 b = L 36 b + (if b < k ∧ m.testBit b = true then 1 else 0)
  | 0 => by simp [pbR]
  | k + 1 => by
    simp only [pbR]
    by_cases e : b = k
    · subst e
      have ih := pbR_at (L := L) (m := m) (b := b) b
      rw [if_neg (by omega)] at ih
      by_cases h : m.testBit b = true
      · rw [if_pos h, up2_s, ih, if_pos ⟨by omega, h⟩]; simp
      · rw [if_neg h, ih, if_neg (fun q => h q.2)]
    · have ih := pbR_at (L := L) (m := m) (b := b) k
      have : (if m.testBit k = true then up2 (pbR L m k) 36 k (pbR L m k 36 k + 1) else pbR L m k) 36 b = pbR L m k 36 b := by
        split
        · exact up2_n _ _ _ _ (by omega)
        · rfl
      rw [this, ih]
      by_cases h : b < k ∧ m.testBit b = true
      · rw [if_pos h, if_pos ⟨by omega, h.2⟩]
      · rw [if_neg h, if_neg (fun q => h ⟨by omega, q.2⟩)]
theorem pbR_row {L : wLn} {m a : Nat} (h : a ≠ 36) : ∀ k, pbR L m k a = L a
  | 0 => rfl
  | k + 1 => by
    simp only [pbR]
    split
    · rw [up2_row h, pbR_row h k]
    · exact pbR_row h k
theorem pbR_hi {L : wLn} {m b : Nat} : ∀ k, k ≤ b → pbR L m k 36 b = L 36 b
  | 0, _ => rfl
  | k + 1, h => by
    simp only [pbR]
    split
    · rw [up2_n _ _ _ _ (by omega), pbR_hi k (by omega)]
    · exact pbR_hi k (by omega)
theorem psR_row {L : wLn} {pm : Nat → Nat} {a : Nat} (h : a ≠ 36) : ∀ k, psR L pm k a = L a
  | 0 => rfl
  | k + 1 => by simp only [psR]; rw [pbR_row h, psR_row h k]
theorem psR_hi {L : wLn} {pm : Nat → Nat} {b : Nat} (h : 24 ≤ b) : ∀ k, psR L pm k 36 b = L 36 b
  | 0 => rfl
  | k + 1 => by simp only [psR]; rw [pbR_hi 24 h, psR_hi h k]
theorem psR_at {L : wLn} {pm : Nat → Nat} {b : Nat} (hb : b < 24) : ∀ k, psR L pm k 36 b = L 36 b + Int64.ofNat (cntN (fun i => (pm i).testBit b) k)
  | 0 => by simp [psR, cntN]
  | k + 1 => by
    simp only [psR, cntN]
    rw [pbR_at 24, psR_at hb k]
    by_cases h : (pm k).testBit b = true
    · rw [if_pos ⟨hb, h⟩, if_pos h, Int64.ofNat_add, Int64.add_assoc]; rfl
    · rw [if_neg (fun q => h q.2), if_neg h]; simp
theorem pfL_at {L : wLn} {bl who : Nat → Int} (b : Nat) : ∀ k, pfL L bl who k 22 b = L 22 b + Int64.ofNat (cntN (fun p => decide (¬ who p = 2 ∧ (bl p).toNat = b)) k)
  | 0 => by simp [pfL, cntN]
  | k + 1 => by
    have ih := pfL_at (L := L) (bl := bl) (who := who) b k
    show (if who k = 2 then pfL L bl who k else up2 (pfL L bl who k) 22 (bl k).toNat (pfL L bl who k 22 (bl k).toNat + 1)) 22 b = _
    by_cases hw : who k = 2
    · rw [if_pos hw, cnt_f (decide_eq_false (fun q => q.1 hw)), ← ih]
    · rw [if_neg hw]
      by_cases e : b = (bl k).toNat
      · rw [cnt_t (decide_eq_true ⟨hw, e.symm⟩), Int64.ofNat_add, ← Int64.add_assoc, ← ih, ← e, up2_s]; rfl
      · rw [cnt_f (decide_eq_false (fun q => e q.2.symm)), ← ih, up2_n _ _ _ _ (by omega)]
theorem pfL_row {L : wLn} {bl who : Nat → Int} {a : Nat} (h : a ≠ 22) : ∀ k, pfL L bl who k a = L a
  | 0 => rfl
  | k + 1 => by
    simp only [pfL]
    split
    · exact pfL_row h k
    · rw [up2_row h, pfL_row h k]
theorem pfR_at {L : wLn} {bl : Nat → Int} {who : Nat → Nat} (b : Nat) : ∀ k, pfR L bl who k 36 b = L 36 b + Int64.ofNat (cntN (fun p => decide (¬ who p = 2 ∧ (bl p).toNat = b)) k)
  | 0 => by simp [pfR, cntN]
  | k + 1 => by
    have ih := pfR_at (L := L) (bl := bl) (who := who) b k
    show (if who k = 2 then pfR L bl who k else up2 (pfR L bl who k) 36 (bl k).toNat (pfR L bl who k 36 (bl k).toNat + 1)) 36 b = _
    by_cases hw : who k = 2
    · rw [if_pos hw, cnt_f (decide_eq_false (fun q => q.1 hw)), ← ih]
    · rw [if_neg hw]
      by_cases e : b = (bl k).toNat
      · rw [cnt_t (decide_eq_true ⟨hw, e.symm⟩), Int64.ofNat_add, ← Int64.add_assoc, ← ih, ← e, up2_s]; rfl
      · rw [cnt_f (decide_eq_false (fun q => e q.2.symm)), ← ih, up2_n _ _ _ _ (by omega)]
theorem pfR_row {L : wLn} {bl : Nat → Int} {who : Nat → Nat} {a : Nat} (h : a ≠ 36) : ∀ k, pfR L bl who k a = L a
  | 0 => rfl
  | k + 1 => by
    simp only [pfR]
    split
    · exact pfR_row h k
    · rw [up2_row h, pfR_row h k]
theorem pfR_hi {L : wLn} {bl : Nat → Int} {who : Nat → Nat} {c b : Nat} (hb : ∀ i, i < c → (bl i).toNat < 24) (h : 24 ≤ b) : ∀ k, k ≤ c → pfR L bl who k 36 b = L 36 b
  | 0, _ => rfl
  | k + 1, hk => by
    have := hb k (by omega)
    simp only [pfR]
    split
    · exact pfR_hi hb h k (by omega)
    · rw [up2_n _ _ _ _ (by omega), pfR_hi hb h k (by omega)]
