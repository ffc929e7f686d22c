/-! ===== the TURN that both find ===== -/
def hit (J : wJn) (t p k : Nat) : Bool := decide (J 14 k = J 20 p ∧ (shf J p k).toNat = t)
theorem hit_row {J J2 : wJn} (h : ∀ a, a ≠ 33 → J2 a = J a) (t p k : Nat) : hit J2 t p k = hit J t p k := by
  unfold hit shf
  rw [h 14 (by decide), h 20 (by decide), h 19 (by decide), h 13 (by decide), h 18 (by decide)]
theorem kIn_at {J : wJn} {p t : Nat} : ∀ k, kIn J p k 33 t = J 33 t + (cntN (hit J t p) k : Nat)
  | 0 => by simp [kIn, cntN]
  | k + 1 => by
    have ih := kIn_at (J := J) (p := p) (t := t) k
    have hr : ∀ a, a ≠ 33 → kIn J p k a = J a := fun a ha => kIn_row ha k
    have hsh : shf (kIn J p k) p k = shf J p k := by
      unfold shf
      rw [hr 19 (by decide), hr 13 (by decide), hr 18 (by decide)]
    show kAdd (kIn J p k) p k 33 t = _
    unfold kAdd
    rw [hr 14 (by decide), hr 20 (by decide), hsh]
    by_cases e : J 14 k = J 20 p
    · rw [if_pos e]
      by_cases e2 : (shf J p k).toNat = t
      · have hh : hit J t p k = true := decide_eq_true ⟨e, e2⟩
        rw [e2, up2_s, ih, cnt_t hh]; omega
      · have hh : hit J t p k = false := decide_eq_false (fun q => e2 q.2)
        rw [up2_n _ _ _ _ (by omega), ih, cnt_f hh]
    · have hh : hit J t p k = false := decide_eq_false (fun q => e q.1)
      rw [if_neg e, ih, cnt_f hh]
theorem kOut_at {J : wJn} {c t : Nat} : ∀ p, kOut J c p 33 t = J 33 t + sumN (fun q => (cntN (hit J t q) c : Nat)) p
  | 0 => by simp [kOut, sumN]
  | p + 1 => by
    have ih := kOut_at (J := J) (c := c) (t := t) p
    show kIn (kOut J c p) p c 33 t = _
    rw [kIn_at c, ih]
    have hc : cntN (hit (kOut J c p) t p) c = cntN (hit J t p) c := cntN_cong c (fun k _ => hit_row (fun a ha => kOut_row ha p) t p k)
    rw [hc]
    simp only [sumN]
    omega
theorem sumN_add {f g : Nat → Int} : ∀ n, sumN (fun i => f i + g i) n = sumN f n + sumN g n
  | 0 => rfl
  | n + 1 => by simp only [sumN]; rw [sumN_add n]; omega
theorem sumN_cnt {P : Nat → Bool} : ∀ n, sumN (fun i => if P i = true then 1 else 0) n = (cntN P n : Nat)
  | 0 => rfl
  | n + 1 => by
    simp only [sumN]
    rw [sumN_cnt n]
    rcases h : P n with _ | _
    · rw [cnt_f h]; simp
    · rw [cnt_t h]; simp
theorem swap {h : Nat → Nat → Bool} {m : Nat} : ∀ c, sumN (fun p => (cntN (fun k => h p k) c : Nat)) m = sumN (fun k => (cntN (fun p => h p k) m : Nat)) c
  | 0 => by
    rw [sumN_0 m (fun k _ => by simp [cntN])]; rfl
  | c + 1 => by
    have ih := swap (h := h) (m := m) c
    have e : ∀ p, ((cntN (fun k => h p k) (c + 1) : Nat) : Int) = (cntN (fun k => h p k) c : Nat) + (if h p c = true then 1 else 0) := by
      intro p
      rcases q : h p c with _ | _
      · rw [cnt_f (P := fun k => h p k) q]; simp
      · rw [cnt_t (P := fun k => h p k) q]; simp
    rw [sumN_cong m (g := fun p => (cntN (fun k => h p k) c : Nat) + (if h p c = true then 1 else 0)) (fun p _ => e p), sumN_add, ih, sumN_cnt (P := fun p => h p c)]
    rfl
theorem cnt_0 {P : Nat → Bool} : ∀ m, (∀ p, p < m → P p = false) → cntN P m = 0
  | 0, _ => rfl
  | m + 1, h => by rw [cnt_f (h m (by omega)), cnt_0 m (fun p hp => h p (by omega))]
theorem cnt_one {P : Nat → Bool} : ∀ m, (∀ p q, p < q → q < m → ¬ (P p = true ∧ P q = true)) → cntN P m = if anyN P m = true then 1 else 0
  | 0, _ => by simp [cntN, anyN]
  | m + 1, h => by
    have ih := cnt_one m (fun p q h1 h2 => h p q h1 (by omega))
    rcases hm : P m with _ | _
    · rw [cnt_f hm, ih]
      have : anyN P (m + 1) = anyN P m := by
        rcases hq : anyN P m with _ | _
        · rcases hq2 : anyN P (m + 1) with _ | _
          · rfl
          · obtain ⟨k, k1, k2⟩ := (anyN_iff P (m + 1)).mp hq2
            by_cases e : k = m
            · subst e; rw [hm] at k2; cases k2
            · have := (anyN_iff P m).mpr ⟨k, by omega, k2⟩
              rw [hq] at this; cases this
        · exact anyN_mono (Nat.le_succ m) hq
      rw [this]
    · have h0 : cntN P m = 0 := cnt_0 m (fun p hp => by
        rcases hq : P p with _ | _
        · rfl
        · exact absurd ⟨hq, hm⟩ (h p m hp (by omega)))
      rw [cnt_t hm, h0, if_pos ((anyN_iff P (m + 1)).mpr ⟨m, by omega, hm⟩)]
theorem emod_2 {x s : Int} (h1 : 0 ≤ x) (h2 : x < 2 * s) : x % s = if x < s then x else x - s := by
  by_cases e : x < s
  · rw [if_pos e, Int.emod_eq_of_lt h1 e]
  · rw [if_neg e]
    have : x % s = (x - s) % s := by
      have := Int.emod_add_mul_ediv x s
      have h3 := Int.sub_emod_right x s
      exact h3.symm
    rw [this, Int.emod_eq_of_lt (by omega) (by omega)]
theorem stp_val {tk : Nat → Int} {s k t : Nat} (h : 0 ≤ tk k ∧ tk k < s) (ht : t < s) : stp tk s k t = if tk k + t < s then (tk k + t).toNat else (tk k + t - s).toNat := by
  unfold stp
  rw [emod_2 (by omega) (by omega)]
  split <;> rfl
theorem bestF_cong {f g : Nat → Int} {s : Nat} (h : ∀ i, i < s → f i = g i) : ∀ j, j ≤ s → bestF f j = bestF g j
  | 0, _ => rfl
  | j + 1, hj => by
    have ih := bestF_cong h j (by omega)
    have hb : bestF g j < s := by
      rcases Nat.eq_zero_or_pos j with e | e
      · subst e; show 0 < s; omega
      · have := bestF_lt g j e; omega
    rw [bestF, bestF, ih, h j (by omega), h _ hb]
theorem bm_best {f : Nat → Int} (h : ∀ i, 0 ≤ f i) : ∀ j, bmF f (j + 1) = (bestF f (j + 1), f (bestF f (j + 1)))
  | 0 => by
    have := h 0
    have e1 : bmF f 1 = if (-1 : Int) < f 0 then (0, f 0) else (0, -1) := rfl
    have e2 : bestF f 1 = 0 := by
      have : bestF f 1 = if f 0 < f 0 then 0 else 0 := rfl
      rw [this]; split <;> rfl
    rw [e1, e2, if_pos (by omega)]
  | j + 1 => by
    have ih := bm_best h j
    have e1 : bmF f (j + 1 + 1) = if (bmF f (j + 1)).2 < f (j + 1) then (j + 1, f (j + 1)) else bmF f (j + 1) := rfl
    have e2 : bestF f (j + 1 + 1) = if f (bestF f (j + 1)) < f (j + 1) then j + 1 else bestF f (j + 1) := rfl
    rw [e1, e2, ih]
    by_cases e : f (bestF f (j + 1)) < f (j + 1)
    · rw [if_pos e, if_pos e]
    · rw [if_neg e, if_neg e]
/-- the pins as both have them -/
def PQ (J : wJn) (m s : Nat) (pm : Nat → Nat) : Prop := (∀ i, i < s → pm i = pmq (fun p => (J 19 p).toNat) (fun p => (J 20 p).toNat) m i) ∧ Dis (fun p => (J 19 p).toNat) (fun p => (J 20 p).toNat) m
theorem kept_eq {J : wJn} {c m s : Nat} {pm : Nat → Nat} (hm : SMu c (J 13) (J 14)) (h : SameM c (J 13) (J 14) (tR J) (bR J)) (hp : Pin J m s) (hq : PQ J m s pm) (hts : ∀ i, i < c → J 13 i < s) {t : Nat} (ht : t < s) : kOut (zeroK J s) c m 33 t = (kpR (tR J) (bR J) pm s t c : Nat) := by
  have hz : zeroK J s 33 t = 0 := ov_in ht
  have hzr : ∀ a, a ≠ 33 → zeroK J s a = J a := fun a ha => ov_row ha
  rw [kOut_at, hz]
  have e1 : sumN (fun q => (cntN (hit (zeroK J s) t q) c : Nat)) m = sumN (fun q => (cntN (fun k => hit J t q k) c : Nat)) m := sumN_cong m (fun q _ => by rw [cntN_cong c (fun k _ => hit_row hzr t q k)])
  rw [e1, swap c]
  unfold kpR
  rw [← sumN_cnt, sumN_cong c (g := fun k => if (pm (stp (tR J) s k t)).testBit (bR J k).toNat = true then 1 else 0)]
  · omega
  · intro k hk
    have gk := hm.2.1 k hk
    have gt := hts k hk
    have hst : stp (tR J) s k t = if J 13 k + t < s then (J 13 k + t).toNat else (J 13 k + t - s).toNat := by
      have := stp_val (tk := tR J) (s := s) (k := k) (t := t) (by rw [(h k hk).1]; omega) ht
      rw [(h k hk).1] at this
      exact this
    have hlt : stp (tR J) s k t < s := stp_lt (by omega)
    have hs3 := hp.2.2.1
    -- a pin that is hit stands where the STRIKE comes
    have hiff : ∀ p, p < m → (hit J t p k = true ↔ ((J 19 p).toNat = stp (tR J) s k t ∧ (J 20 p).toNat = (bR J k).toNat)) := by
      intro p hpm
      have gp := hp.2.2.2.2.2 p hpm
      unfold hit shf
      rw [decide_eq_true_eq, hst, (h k hk).2, hs3]
      constructor
      · rintro ⟨a1, a2⟩
        refine ⟨?_, by omega⟩
        split at a2 <;> split <;> omega
      · rintro ⟨a1, a2⟩
        refine ⟨by omega, ?_⟩
        split at a1 <;> split <;> omega
    rw [cnt_one (P := fun p => hit J t p k) m (fun p q h1 h2 h3 => by
      have b1 := (hiff p (by omega)).mp h3.1
      have b2 := (hiff q h2).mp h3.2
      exact hq.2 p q h1 h2 ⟨b1.1.trans b2.1.symm, b1.2.trans b2.2.symm⟩)]
    have hany : anyN (fun p => hit J t p k) m = true ↔ (pm (stp (tR J) s k t)).testBit (bR J k).toNat = true := by
      rw [anyN_iff, hq.1 _ hlt, pmq_bit]
      constructor
      · rintro ⟨p, p1, p2⟩
        exact ⟨p, p1, (hiff p p1).mp p2⟩
      · rintro ⟨p, p1, p2⟩
        exact ⟨p, p1, (hiff p p1).mpr p2⟩
    by_cases e : (pm (stp (tR J) s k t)).testBit (bR J k).toNat = true
    · rw [if_pos e, if_pos (hany.mpr e)]; rfl
    · rw [if_neg e, if_neg (fun z => e (hany.mp z))]; rfl
theorem find_eq {J : wJn} {c m s : Nat} {pm : Nat → Nat} (hm : SMu c (J 13) (J 14)) (h : SameM c (J 13) (J 14) (tR J) (bR J)) (hp : Pin J m s) (hq : PQ J m s pm) (hts : ∀ i, i < c → J 13 i < s) : findJ J c m s 32 0 = ((bmF (fun t => (kpR (tR J) (bR J) pm s t c : Nat)) s).1 : Nat) ∧ findJ J c m s 32 1 = (bmF (fun t => (kpR (tR J) (bR J) pm s t c : Nat)) s).2 ∧ (bmF (fun t => (kpR (tR J) (bR J) pm s t c : Nat)) s).1 < s := by
  have hs1 : 1 ≤ s := hp.2.2.2.1
  have hb := bm_best (f := fun t => ((kpR (tR J) (bR J) pm s t c : Nat) : Int)) (fun i => by show (0 : Int) ≤ ((kpR (tR J) (bR J) pm s i c : Nat) : Int); omega) (s - 1)
  rw [show s - 1 + 1 = s by omega] at hb
  have hc := bestF_cong (f := kOut (zeroK J s) c m 33) (g := fun t => ((kpR (tR J) (bR J) pm s t c : Nat) : Int)) (s := s) (fun i hi => kept_eq hm h hp hq hts hi) s (Nat.le_refl s)
  have hlt := bestF_lt (fun t => ((kpR (tR J) (bR J) pm s t c : Nat) : Int)) s (by omega)
  have hk := kept_eq hm h hp hq hts hlt
  unfold findJ
  rw [hc, hb]
  refine ⟨by rw [up2_n _ _ _ _ (by omega), up2_s], by rw [up2_s]; exact hk, hlt⟩
/-! ===== what is fed ===== -/
theorem byte_and (x : Int32) : (vp_nar .byte (x.toInt8.toInt32)) &&& iI 255 = x &&& iI 255 := by
  have e : vp_nar .byte (x.toInt8.toInt32) = x.toInt8.toInt32.toInt8.toInt32 := rfl
  rw [e]
  have e2 : x.toInt8.toInt32.toInt8 = x.toInt8 := by simp
  rw [e2]
  apply Int32.toBitVec_inj.mp
  apply BitVec.eq_of_getLsbD_eq
  intro i hi
  rw [Int32.toBitVec_and, Int32.toBitVec_and, BitVec.getLsbD_and, BitVec.getLsbD_and]
  by_cases h : i < 8
  · have : (x.toInt8.toInt32.toBitVec).getLsbD i = x.toBitVec.getLsbD i := by
      rw [Int8.toBitVec_toInt32, Int32.toBitVec_toInt8, BitVec.getLsbD_signExtend]
      simp [hi, h, BitVec.getElem_signExtend]
    rw [this]
  · have : (iI 255).toBitVec.getLsbD i = false := by
      have hall : ∀ j : Fin 32, 8 ≤ j.val → (iI 255).toBitVec.getLsbD j.val = false := by decide +kernel
      exact hall ⟨i, hi⟩ (by show 8 ≤ i; omega)
    rw [this, Bool.and_false, Bool.and_false]
theorem bt_bv (a : Int) (d : Nat) : (iI (bv a d) &&& iI 255) = ((iI a >>> (iI (8 * (d : Int)) &&& 31)) &&& iI 255) := by
  unfold bv
  rw [iI_of]
  exact byte_and _
theorem addN_row {a : Int} {x : Nat} (h1 : x ≠ 1) (h2 : x ≠ 2) : ∀ (d : Nat) (J : wJn), addN a d J x = J x
  | 0, _ => rfl
  | d + 1, J => by simp only [addN]; rw [addN_row h1 h2 d, up2_row h1, up2_row h2]
theorem addN_1 {a : Int} {y : Nat} (h : y ≠ 1) : ∀ (d : Nat) (J : wJn), addN a d J 1 y = J 1 y
  | 0, _ => rfl
  | d + 1, J => by simp only [addN]; rw [addN_1 h d, up2_n _ _ _ _ (by omega), up2_row (by decide)]
theorem addN_at {a : Int} : ∀ (d : Nat) (J : wJn) (T : Nat), J 1 1 = T → ∀ p, addN a d J 2 p = if T ≤ p ∧ p < T + d then bv a (d - 1 - (p - T)) else J 2 p
  | 0, J, T, h, p => by rw [if_neg (by omega)]; rfl
  | d + 1, J, T, h, p => by
    simp only [addN]
    rw [addN_at d _ (T + 1) (by rw [up2_s, h]; omega) p, up2_row (by decide), h]
    by_cases e : p = T
    · subst e
      rw [if_neg (by omega), if_pos (by omega), show ((p : Int)).toNat = p by omega, up2_s, show d + 1 - 1 - (p - p) = d by omega]
    · by_cases e2 : T + 1 ≤ p ∧ p < T + 1 + d
      · rw [if_pos e2, if_pos (by omega), show d + 1 - 1 - (p - T) = d - 1 - (p - (T + 1)) by omega]
      · rw [if_neg e2, if_neg (by omega), up2_n _ _ _ _ (by omega)]
theorem fed_at {J : wJn} {a b c d e : Int} {T : Nat} (hT : J 1 1 = T) {p : Nat} : fedJ J a b c d e 2 p = if T ≤ p ∧ p < T + 20 then bv (fdW a b c d e (p - T)) (3 - (p - T) % 4) else J 2 p := by
  unfold fedJ
  have s1 := addN_sz a 4 J
  have s2 := addN_sz b 4 (addN a 4 J)
  have s3 := addN_sz c 4 (addN b 4 (addN a 4 J))
  have s4 := addN_sz d 4 (addN c 4 (addN b 4 (addN a 4 J)))
  rw [addN_at 4 _ (T + 16) (by rw [s4, s3, s2, s1, hT]; omega), addN_at 4 _ (T + 12) (by rw [s3, s2, s1, hT]; omega), addN_at 4 _ (T + 8) (by rw [s2, s1, hT]; omega), addN_at 4 _ (T + 4) (by rw [s1, hT]; omega), addN_at 4 _ T hT]
  unfold fdW
  by_cases h0 : T ≤ p ∧ p < T + 20
  · rw [if_pos h0]
    by_cases h1 : p - T < 4
    · rw [if_neg (by omega), if_neg (by omega), if_neg (by omega), if_neg (by omega), if_pos (by omega), if_pos h1, show 4 - 1 - (p - T) = 3 - (p - T) % 4 by omega]
    · by_cases h2 : p - T < 8
      · rw [if_neg (by omega), if_neg (by omega), if_neg (by omega), if_pos (by omega), if_neg h1, if_pos h2, show 4 - 1 - (p - (T + 4)) = 3 - (p - T) % 4 by omega]
      · by_cases h3 : p - T < 12
        · rw [if_neg (by omega), if_neg (by omega), if_pos (by omega), if_neg h1, if_neg h2, if_pos h3, show 4 - 1 - (p - (T + 8)) = 3 - (p - T) % 4 by omega]
        · by_cases h4 : p - T < 16
          · rw [if_neg (by omega), if_pos (by omega), if_neg h1, if_neg h2, if_neg h3, if_pos h4, show 4 - 1 - (p - (T + 12)) = 3 - (p - T) % 4 by omega]
          · rw [if_pos (by omega), if_neg h1, if_neg h2, if_neg h3, if_neg h4, show 4 - 1 - (p - (T + 16)) = 3 - (p - T) % 4 by omega]
  · rw [if_neg h0, if_neg (by omega), if_neg (by omega), if_neg (by omega), if_neg (by omega), if_neg (by omega)]
theorem fed_row {J : wJn} {a b c d e : Int} {x : Nat} (h1 : x ≠ 1) (h2 : x ≠ 2) : fedJ J a b c d e x = J x := by
  unfold fedJ
  rw [addN_row h1 h2, addN_row h1 h2, addN_row h1 h2, addN_row h1 h2, addN_row h1 h2]
theorem fed_sz {J : wJn} {a b c d e : Int} : fedJ J a b c d e 1 1 = J 1 1 + 20 := by
  unfold fedJ
  rw [addN_sz, addN_sz, addN_sz, addN_sz, addN_sz]; omega
theorem fdR_38 {J : wJn} {a b c d e : Int} {T : Nat} : ∀ (i p : Nat), fdR J a b c d e T i 38 p = if T ≤ p ∧ p < T + i then fdB a b c d e (p - T) else J 38 p
  | 0, p => by rw [if_neg (by omega)]; rfl
  | i + 1, p => by
    rw [fdR, up2_row (by decide)]
    by_cases h : p = T + i
    · subst h; rw [up2_s, if_pos (by omega), show T + i - T = i by omega]
    · rw [up2_n _ _ _ _ (by omega), fdR_38 i p]
      by_cases h2 : T ≤ p ∧ p < T + i
      · rw [if_pos h2, if_pos (by omega)]
      · rw [if_neg h2, if_neg (by omega)]
theorem fdR_row {J : wJn} {a b c d e : Int} {T x : Nat} (h1 : x ≠ 34) (h2 : x ≠ 38) : ∀ i, fdR J a b c d e T i x = J x
  | 0 => rfl
  | i + 1 => by rw [fdR, up2_row h1, up2_row h2, fdR_row h1 h2 i]
theorem fdR_34 {J : wJn} {a b c d e : Int} {T y : Nat} (h : y ≠ 4) : ∀ i, fdR J a b c d e T i 34 y = J 34 y
  | 0 => rfl
  | i + 1 => by rw [fdR, up2_n _ _ _ _ (by omega), up2_row (by decide), fdR_34 h i]
theorem fdB_bt {a b c d e : Int} {i : Nat} (hi : i < 20) : fdB a b c d e i = (iI (bv (fdW a b c d e i) (3 - i % 4)) &&& iI 255).toInt := by
  rw [bt_bv]
  unfold fdB
  rw [show (8 * (3 - (i : Int) % 4)) = 8 * ((3 - i % 4 : Nat) : Int) by omega]
