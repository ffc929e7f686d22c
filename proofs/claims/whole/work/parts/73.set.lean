/-! ===== THE SETTING of both, and the least REACH ===== -/
/-- a SCORE's STRIKES, in their order -/
def SMu (c : Nat) (tk bl : Nat → Int) : Prop := c ≤ 100 ∧ (∀ i, i < c → 0 ≤ tk i ∧ tk i ≤ 3000 ∧ 0 ≤ bl i ∧ bl i < 24) ∧ ∀ i j, i < j → j < c → tk i < tk j ∨ (tk i = tk j ∧ bl i < bl j)
def SameM (c : Nat) (tk bl tk2 bl2 : Nat → Int) : Prop := ∀ i, i < c → tk2 i = tk i ∧ bl2 i = bl i
theorem mvF_cong {c : Nat} {tk bl tk2 bl2 : Nat → Int} (h : SameM c tk bl tk2 bl2) {ρ : Int} {l k : Nat} (hk : k < c) (hl : l ≤ c) : mvF tk2 bl2 ρ l k = mvF tk bl ρ l k := by
  unfold mvF
  by_cases e : l = 0
  · rw [if_pos e, if_pos e]
  · rw [if_neg e, if_neg e, (h k hk).1, (h k hk).2, (h (l - 1) (by omega)).1, (h (l - 1) (by omega)).2]
theorem LC_eq {c : Nat} {tk bl tk2 bl2 : Nat → Int} (hm : SMu c tk bl) (h : SameM c tk bl tk2 bl2) {ρ : Int} {k l r : Nat} (hk : k < c) (hl : l ≤ k) (hr : r ≤ k) : LCc tk bl ρ k l r = LCx tk2 bl2 ρ k l r := by
  unfold LCc LCx
  rw [mvF_cong h hk (by omega)]
  by_cases e : r = 0
  · rw [if_neg (by omega), if_neg (by omega)]
  · rw [(h k hk).1, (h k hk).2, (h (r - 1) (by omega)).1, (h (r - 1) (by omega)).2]
    have := hm.2.2 (r - 1) k (by omega) hk
    by_cases e2 : tk (r - 1) = tk k
    · rw [if_pos ⟨e, e2⟩, if_pos ⟨by omega, e2.symm, by omega⟩]
    · rw [if_neg (fun q => e2 q.2), if_neg (fun q => e2 q.2.1.symm)]
theorem RC_eq {c : Nat} {tk bl tk2 bl2 : Nat → Int} (hm : SMu c tk bl) (h : SameM c tk bl tk2 bl2) {ρ : Int} {k l r : Nat} (hk : k < c) (hl : l ≤ k) (hr : r ≤ k) : RCc tk bl ρ k l r = RCx tk2 bl2 ρ k l r := by
  unfold RCc RCx
  rw [mvF_cong h hk (by omega)]
  by_cases e : l = 0
  · rw [if_neg (by omega)]
  · rw [(h k hk).1, (h k hk).2, (h (l - 1) (by omega)).1, (h (l - 1) (by omega)).2]
    have := hm.2.2 (l - 1) k (by omega) hk
    rw [if_neg (by omega)]
section CONG
variable {c : Nat} {LC RC LC2 RC2 : Nat → Nat → Nat → Int} {π : Int}
theorem chs_cong (h1 : ∀ k l r, k < c → l ≤ k → r ≤ k → LC k l r = LC2 k l r) (h2 : ∀ k l r, k < c → l ≤ k → r ≤ k → RC k l r = RC2 k l r) : ∀ d l r, d ≤ c → l ≤ c - d → r ≤ c - d → chs c LC RC π d l r = chs c LC2 RC2 π d l r
  | 0, _, _, _, _, _ => rfl
  | d + 1, l, r, hd, hl, hr => by
    simp only [chs]
    rw [opt_cong h1 h2 (d + 1) l r hd hl hr, h1 _ _ _ (by omega) hl hr, h2 _ _ _ (by omega) hl hr, opt_cong h1 h2 d _ _ (by omega) (by omega) (by omega), opt_cong h1 h2 d l _ (by omega) (by omega) (by omega)]
theorem pth_cong (h1 : ∀ k l r, k < c → l ≤ k → r ≤ k → LC k l r = LC2 k l r) (h2 : ∀ k l r, k < c → l ≤ k → r ≤ k → RC k l r = RC2 k l r) : ∀ k, k ≤ c → pth c LC RC π k = pth c LC2 RC2 π k
  | 0, _ => rfl
  | k + 1, hk => by
    have ih := pth_cong h1 h2 k (by omega)
    have hl := pth_le c LC2 RC2 π k
    simp only [pth]
    rw [ih, chs_cong h1 h2 (c - k) _ _ (by omega) (by omega) (by omega)]
theorem who_cong (h1 : ∀ k l r, k < c → l ≤ k → r ≤ k → LC k l r = LC2 k l r) (h2 : ∀ k l r, k < c → l ≤ k → r ≤ k → RC k l r = RC2 k l r) {k : Nat} (hk : k ≤ c) : whoF c LC RC π k = whoF c LC2 RC2 π k := by
  have hl := pth_le c LC2 RC2 π k
  unfold whoF
  rw [pth_cong h1 h2 k hk, chs_cong h1 h2 (c - k) _ _ (by omega) (by omega) (by omega)]
theorem gone_cong (h1 : ∀ k l r, k < c → l ≤ k → r ≤ k → LC k l r = LC2 k l r) (h2 : ∀ k l r, k < c → l ≤ k → r ≤ k → RC k l r = RC2 k l r) {mv mv2 : Nat → Nat → Int} (h3 : ∀ l k, k < c → l ≤ k → mv l k = mv2 l k) (f : Nat) : ∀ k, k ≤ c → goneF c LC RC π mv f k = goneF c LC2 RC2 π mv2 f k
  | 0, _ => rfl
  | k + 1, hk => by
    have hl := pth_le c LC2 RC2 π k
    simp only [goneF]
    rw [gone_cong h1 h2 h3 f k (by omega), who_cong h1 h2 (by omega), pth_cong h1 h2 k (by omega), h3 _ k (by omega) (by split <;> omega)]
theorem cntN_cong {p q : Nat → Bool} : ∀ n, (∀ k, k < n → p k = q k) → cntN p n = cntN q n
  | 0, _ => rfl
  | n + 1, h => by simp only [cntN]; rw [cntN_cong n (fun k hk => h k (by omega)), h n (by omega)]
theorem out_cong (h1 : ∀ k l r, k < c → l ≤ k → r ≤ k → LC k l r = LC2 k l r) (h2 : ∀ k l r, k < c → l ≤ k → r ≤ k → RC k l r = RC2 k l r) {k : Nat} (hk : k ≤ c) : outF c LC RC π k = outF c LC2 RC2 π k := by
  unfold outF
  exact cntN_cong k (fun i hi => by rw [who_cong h1 h2 (by omega)])
end CONG
/-! the least REACH -/
section NEEDEQ
variable {c : Nat} {tk bl : Nat → Int} {ρ : Int}
theorem mv_rf (hm : SMu c tk bl) (hρ : 1 ≤ ρ ∧ ρ ≤ 24) {l k : Nat} (hk : k < c) (hl : l ≤ c) : mvF tk bl ρ l k < FAR ↔ rfF tk bl l k ≤ ρ := by
  unfold mvF rfF
  by_cases e : l = 0
  · rw [if_pos e, if_pos e]; unfold FAR; omega
  · rw [if_neg e, if_neg e]
    have g1 := hm.2.1 k hk
    have g2 := hm.2.1 (l - 1) (by omega)
    have hw : ((bl k - bl (l - 1)).natAbs : Int) < 24 := by omega
    generalize ((bl k - bl (l - 1)).natAbs : Int) = w at *
    generalize tk k - tk (l - 1) = u at *
    by_cases h1 : u < 1
    · rw [if_pos (Or.inl h1), if_pos h1]; unfold FAR; omega
    · rw [if_neg h1]
      have hu : 0 < u := by omega
      have key : (w + u - 1) / u ≤ ρ ↔ w ≤ ρ * u := by
        rw [← Int.lt_add_one_iff, Int.ediv_lt_iff_lt_mul hu, Int.add_mul, Int.one_mul]
        omega
      rw [key]
      by_cases h2 : ρ * u < w
      · rw [if_pos (Or.inr h2)]; unfold FAR; omega
      · rw [if_neg (by omega)]; unfold FAR; omega
/-- states that are come to -/
def Fw (tk bl : Nat → Int) (ρ : Int) : Nat → Nat → Nat → Prop
  | 0, l, r => l = 0 ∧ r = 0
  | k + 1, l, r => (l = k + 1 ∧ ∃ l0, Fw tk bl ρ k l0 r ∧ LCc tk bl ρ k l0 r < FAR) ∨ (r = k + 1 ∧ ∃ r0, Fw tk bl ρ k l r0 ∧ RCc tk bl ρ k l r0 < FAR)
theorem Fw_bd : ∀ k l r, Fw tk bl ρ k l r → l ≤ k ∧ r ≤ k ∧ (0 < k → (l = k ∧ r < k) ∨ (r = k ∧ l < k))
  | 0, l, r, h => ⟨by have := h.1; omega, by have := h.2; omega, fun q => absurd q (by omega)⟩
  | k + 1, l, r, h => by
    rcases h with ⟨h1, l0, h2, -⟩ | ⟨h1, r0, h2, -⟩
    · have := Fw_bd k l0 r h2
      exact ⟨by omega, by omega, fun _ => Or.inl ⟨h1, by omega⟩⟩
    · have := Fw_bd k l r0 h2
      exact ⟨by omega, by omega, fun _ => Or.inr ⟨h1, by omega⟩⟩
/-- LEFT may: told by the REACH alone, but for the STRIKE just ahead -/
theorem LC_rf (hm : SMu c tk bl) (hρ : 1 ≤ ρ ∧ ρ ≤ 24) {k i : Nat} (hk : k + 1 < c) (hi : i ≤ k) : LCc tk bl ρ (k + 1) (k + 1) i < FAR ↔ rfF tk bl (k + 1) (k + 1) ≤ ρ := by
  rw [← mv_rf hm hρ hk (by omega)]
  unfold LCc
  by_cases e : i ≠ 0 ∧ tk (i - 1) = tk (k + 1)
  · rw [if_pos e]
    have h1 := hm.2.2 (i - 1) k (by omega) (by omega)
    have h2 := hm.2.2 k (k + 1) (by omega) hk
    have h3 : mvF tk bl ρ (k + 1) (k + 1) = FAR := by
      unfold mvF
      rw [if_neg (by omega), if_pos (Or.inl (by show tk (k + 1) - tk (k + 1 - 1) < 1; rw [Nat.add_sub_cancel]; omega))]
    rw [h3]
  · rw [if_neg e]
theorem LC_rf2 (hm : SMu c tk bl) (hρ : 1 ≤ ρ ∧ ρ ≤ 24) {k i : Nat} (hk : k + 1 < c) (hi : i ≤ k) : LCc tk bl ρ (k + 1) i (k + 1) < FAR ↔ (¬ tk (k + 1) = tk k ∧ rfF tk bl i (k + 1) ≤ ρ) := by
  rw [← mv_rf hm hρ hk (by omega)]
  unfold LCc
  rw [Nat.add_sub_cancel]
  by_cases e : tk k = tk (k + 1)
  · rw [if_pos ⟨by omega, e⟩]; unfold FAR; constructor
    · intro h; omega
    · intro h; exact absurd e.symm h.1
  · rw [if_neg (fun q => e q.2)]
    exact ⟨fun h => ⟨fun q => e q.symm, h⟩, fun h => h.2⟩
theorem minN_le {f : Nat → Int} {ρ : Int} (hρ : ρ < 25) : ∀ n, minN f n ≤ ρ ↔ ∃ i, i < n ∧ f i ≤ ρ
  | 0 => by
    simp only [minN]
    exact ⟨fun h => absurd h (by omega), fun ⟨i, h, _⟩ => absurd h (by omega)⟩
  | n + 1 => by
    have ih := minN_le (f := f) hρ n
    simp only [minN]
    constructor
    · intro h
      by_cases q : minN f n ≤ ρ
      · obtain ⟨i, h1, h2⟩ := ih.mp q
        exact ⟨i, by omega, h2⟩
      · exact ⟨n, by omega, by omega⟩
    · rintro ⟨i, h1, h2⟩
      by_cases q : i = n
      · subst q; omega
      · have := ih.mpr ⟨i, by omega, h2⟩
        omega
theorem NS_fw (hm : SMu c tk bl) (hρ : 1 ≤ ρ ∧ ρ ≤ 24) : ∀ k, k < c → ∀ i, i ≤ k → ((NS tk bl k).1 i ≤ ρ ↔ Fw tk bl ρ (k + 1) (k + 1) i) ∧ ((NS tk bl k).2 i ≤ ρ ↔ Fw tk bl ρ (k + 1) i (k + 1))
  | 0, hk, i, hi => by
    have e : i = 0 := by omega
    subst e
    have h1 : LCc tk bl ρ 0 0 0 < FAR := by unfold LCc mvF FAR; simp
    have h2 : RCc tk bl ρ 0 0 0 < FAR := by unfold RCc mvF FAR; simp
    constructor
    · exact ⟨fun _ => Or.inl ⟨rfl, 0, ⟨rfl, rfl⟩, h1⟩, fun _ => hρ.1⟩
    · exact ⟨fun _ => Or.inr ⟨rfl, 0, ⟨rfl, rfl⟩, h2⟩, fun _ => hρ.1⟩
  | k + 1, hk, i, hi => by
    have ih := NS_fw hm hρ k (by omega)
    simp only [NS, nxL, nxR]
    by_cases e : i = k + 1
    · subst e
      rw [if_pos rfl, if_pos rfl]
      constructor
      · rw [Nat.add_sub_cancel]
        constructor
        · intro h
          by_cases q : tk (k + 1) = tk k
          · rw [if_pos q] at h; exact absurd h (by omega)
          · rw [if_neg q, minN_le (by omega)] at h
            obtain ⟨j, j1, j2⟩ := h
            refine Or.inl ⟨rfl, j, (ih j (by omega)).2.mp (by omega), (LC_rf2 hm hρ hk (by omega)).mpr ⟨q, by omega⟩⟩
        · rintro (⟨-, l0, h1, h2⟩ | ⟨h1, -⟩)
          · have hb := Fw_bd _ _ _ h1
            have hl : l0 ≤ k := by omega
            have h3 := (LC_rf2 hm hρ hk hl).mp h2
            have h4 := (ih l0 hl).2.mpr h1
            rw [if_neg h3.1, minN_le (by omega)]
            exact ⟨l0, by omega, by have := h3.2; omega⟩
          · omega
      · constructor
        · intro h
          rw [minN_le (by omega)] at h
          obtain ⟨j, j1, j2⟩ := h
          refine Or.inr ⟨rfl, j, (ih j (by omega)).1.mp (by omega), ?_⟩
          show mvF tk bl ρ j (k + 1) < FAR
          rw [mv_rf hm hρ hk (by omega)]
          omega
        · rintro (⟨h1, -⟩ | ⟨-, r0, h1, h2⟩)
          · omega
          · have hb := Fw_bd _ _ _ h1
            have hr : r0 ≤ k := by omega
            have h4 := (ih r0 hr).1.mpr h1
            have h3 : mvF tk bl ρ r0 (k + 1) < FAR := h2
            rw [mv_rf hm hρ hk (by omega)] at h3
            rw [minN_le (by omega)]
            exact ⟨r0, by omega, by omega⟩
    · rw [if_neg e, if_neg e]
      have hi2 : i ≤ k := by omega
      have ihi := ih i hi2
      constructor
      · constructor
        · intro h
          exact Or.inl ⟨rfl, k + 1, ihi.1.mp (by omega), (LC_rf hm hρ hk hi2).mpr (by omega)⟩
        · rintro (⟨-, l0, h1, h2⟩ | ⟨h1, -⟩)
          · have hb := Fw_bd _ _ _ h1
            have hl : l0 = k + 1 := by omega
            subst hl
            have h3 := (LC_rf hm hρ hk hi2).mp h2
            have h4 := ihi.1.mpr h1
            omega
          · omega
      · constructor
        · intro h
          refine Or.inr ⟨rfl, k + 1, ihi.2.mp (by omega), ?_⟩
          show mvF tk bl ρ (k + 1) (k + 1) < FAR
          rw [mv_rf hm hρ hk (by omega)]
          omega
        · rintro (⟨h1, -⟩ | ⟨-, r0, h1, h2⟩)
          · omega
          · have hb := Fw_bd _ _ _ h1
            have hr : r0 = k + 1 := by omega
            subst hr
            have h3 : mvF tk bl ρ (k + 1) (k + 1) < FAR := h2
            rw [mv_rf hm hρ hk (by omega)] at h3
            have h4 := ihi.2.mpr h1
            omega
/-- with LEFT OUT at FAR: either nothing, or all of it near -/
theorem optF_bd {LC RC : Nat → Nat → Nat → Int} (hL : okC c LC) (hR : okC c RC) (hc : c ≤ 100) : ∀ d l r, d ≤ c → l ≤ c - d → r ≤ c - d → 0 ≤ opt c LC RC FAR d l r ∧ (opt c LC RC FAR d l r = FAR ∨ opt c LC RC FAR d l r ≤ 24 * d)
  | 0, l, r, _, _, _ => by simp [opt]
  | d + 1, l, r, hd, hl, hr => by
    have i1 := optF_bd hL hR hc d (c - (d + 1) + 1) r (by omega) (by omega) (by omega)
    have i2 := optF_bd hL hR hc d l (c - (d + 1) + 1) (by omega) (by omega) (by omega)
    have g1 := hL (c - (d + 1)) l r (by omega) hl hr
    have g2 := hR (c - (d + 1)) l r (by omega) hl hr
    simp only [opt]
    generalize opt c LC RC FAR d (c - (d + 1) + 1) r = a at *
    generalize opt c LC RC FAR d l (c - (d + 1) + 1) = b at *
    generalize opt c LC RC FAR d l r = e at *
    generalize LC (c - (d + 1)) l r = x at *
    generalize RC (c - (d + 1)) l r = y at *
    unfold bst3 bst1 FAR at *
    constructor <;> (repeat' split) <;> omega
theorem optF_iff {LC RC : Nat → Nat → Nat → Int} (hL : okC c LC) (hR : okC c RC) (hc : c ≤ 100) {k l r : Nat} (hk : k < c) (hl : l ≤ k) (hr : r ≤ k) : opt c LC RC FAR (c - k) l r < FAR ↔ (LC k l r < FAR ∧ opt c LC RC FAR (c - (k + 1)) (k + 1) r < FAR) ∨ (RC k l r < FAR ∧ opt c LC RC FAR (c - (k + 1)) l (k + 1) < FAR) := by
  have e : c - k = (c - (k + 1)) + 1 := by omega
  have ek : c - (c - (k + 1) + 1) = k := by omega
  have i1 := optF_bd hL hR hc (c - (k + 1)) (k + 1) r (by omega) (by omega) (by omega)
  have i2 := optF_bd hL hR hc (c - (k + 1)) l (k + 1) (by omega) (by omega) (by omega)
  have g1 := hL k l r hk hl hr
  have g2 := hR k l r hk hl hr
  rw [e]
  simp only [opt]
  rw [ek]
  have hd : ((c - (k + 1) : Nat) : Int) ≤ 100 := by omega
  generalize ((c - (k + 1) : Nat) : Int) = dd at *
  generalize opt c LC RC FAR (c - (k + 1)) (k + 1) r = a at *
  generalize opt c LC RC FAR (c - (k + 1)) l (k + 1) = b at *
  generalize opt c LC RC FAR (c - (k + 1)) l r = f at *
  generalize LC k l r = x at *
  generalize RC k l r = y at *
  unfold bst3 bst1 FAR at *
  constructor
  · intro h
    (repeat' split at h) <;> omega
  · intro h
    (repeat' split) <;> omega
theorem ok_LCc (hm : SMu c tk bl) : okC c (LCc tk bl ρ) := fun k l r hk hl hr => LCc_bd (fun i hi => by
  have := hm.2.1 i (by omega); omega)
theorem ok_RCc (hm : SMu c tk bl) : okC c (RCc tk bl ρ) := fun k l r hk hl hr => mvF_bd (fun i hi => by
  have := hm.2.1 i (by omega); omega)
theorem fw_opt (hm : SMu c tk bl) : ∀ k, k ≤ c → (opt c (LCc tk bl ρ) (RCc tk bl ρ) FAR c 0 0 < FAR ↔ ∃ l r, Fw tk bl ρ k l r ∧ opt c (LCc tk bl ρ) (RCc tk bl ρ) FAR (c - k) l r < FAR)
  | 0, _ => ⟨fun h => ⟨0, 0, ⟨rfl, rfl⟩, h⟩, fun ⟨l, r, h1, h2⟩ => by
      obtain ⟨rfl, rfl⟩ := h1
      exact h2⟩
  | k + 1, hk => by
    rw [fw_opt hm k (by omega)]
    constructor
    · rintro ⟨l, r, h1, h2⟩
      have hb := Fw_bd _ _ _ h1
      rcases (optF_iff (ok_LCc hm) (ok_RCc hm) hm.1 (by omega) hb.1 hb.2.1).mp h2 with ⟨a1, a2⟩ | ⟨a1, a2⟩
      · exact ⟨k + 1, r, Or.inl ⟨rfl, l, h1, a1⟩, a2⟩
      · exact ⟨l, k + 1, Or.inr ⟨rfl, r, h1, a1⟩, a2⟩
    · rintro ⟨l, r, h1, h2⟩
      rcases h1 with ⟨rfl, l0, a1, a2⟩ | ⟨rfl, r0, a1, a2⟩
      · have hb := Fw_bd _ _ _ a1
        exact ⟨l0, r, a1, (optF_iff (ok_LCc hm) (ok_RCc hm) hm.1 (by omega) hb.1 hb.2.1).mpr (Or.inl ⟨a2, h2⟩)⟩
      · have hb := Fw_bd _ _ _ a1
        exact ⟨l, r0, a1, (optF_iff (ok_LCc hm) (ok_RCc hm) hm.1 (by omega) hb.1 hb.2.1).mpr (Or.inr ⟨a2, h2⟩)⟩
theorem NS_1 (hm : SMu c tk bl) : ∀ k, k < c → ∀ i, i ≤ k → 1 ≤ (NS tk bl k).1 i ∧ 1 ≤ (NS tk bl k).2 i
  | 0, _, i, _ => by simp [NS]
  | k + 1, hk, i, hi => by
    have ih := NS_1 hm k (by omega)
    have hmin : ∀ (f : Nat → Int) (n : Nat), (∀ j, j < n → 1 ≤ f j) → 1 ≤ minN f n := by
      intro f n
      induction n with
      | zero => intro _; simp [minN]
      | succ n ihn =>
        intro h
        have h1 := ihn (fun j hj => h j (by omega))
        have h2 := h n (by omega)
        simp only [minN]; omega
    simp only [NS, nxL, nxR]
    by_cases e : i = k + 1
    · rw [if_pos e, if_pos e]
      have m1 := hmin (fun i => max ((NS tk bl k).2 i) (rfF tk bl i (k + 1))) (k + 1) (fun j hj => by have := (ih j (by omega)).2; show 1 ≤ max _ _; omega)
      have m2 := hmin (fun i => max ((NS tk bl k).1 i) (rfF tk bl i (k + 1))) (k + 1) (fun j hj => by have := (ih j (by omega)).1; show 1 ≤ max _ _; omega)
      constructor
      · split <;> omega
      · omega
    · rw [if_neg e, if_neg e]
      have := ih i (by omega)
      omega
end NEEDEQ
theorem ndX_at {tk bl : Nat → Int} {c : Nat} {M : Int} : ∀ (d ρ : Nat), (∀ x : Nat, ρ ≤ x → x < ρ + d → (M ≤ x ↔ opt c (LCx tk bl (x : Int)) (RCx tk bl (x : Int)) FAR c 0 0 < FAR)) → (ρ : Int) ≤ M → ndX tk bl c d ρ = if M < ((ρ + d : Nat) : Int) then M else -1
  | 0, ρ, _, h => by rw [ndX, if_neg (by omega)]
  | d + 1, ρ, hx, h => by
    rw [ndX]
    have h0 := hx ρ (Nat.le_refl ρ) (by omega)
    by_cases q : opt c (LCx tk bl (ρ : Int)) (RCx tk bl (ρ : Int)) FAR c 0 0 < FAR
    · rw [if_pos q]
      have := h0.mpr q
      rw [if_pos (by omega)]; omega
    · rw [if_neg q]
      have hn : ¬ M ≤ ρ := fun z => q (h0.mp z)
      rw [ndX_at d (ρ + 1) (fun x x1 x2 => hx x (by omega) (by omega)) (by omega), show ρ + 1 + d = ρ + (d + 1) by omega]
theorem need_eq {c : Nat} {tk bl tk2 bl2 : Nat → Int} (hm : SMu c tk bl) (h : SameM c tk bl tk2 bl2) : needF tk bl c = ndX tk2 bl2 c 24 1 := by
  unfold needF
  by_cases hc : c = 0
  · rw [if_pos hc]
    subst hc
    rw [ndX, if_pos (by simp [opt, FAR])]; rfl
  · rw [if_neg hc]
    have h1 : 1 ≤ minN (fun i => min ((NS tk bl (c - 1)).1 i) ((NS tk bl (c - 1)).2 i)) c := by
      have hN := NS_1 hm (c - 1) (by omega)
      have hmin : ∀ (f : Nat → Int) (n : Nat), (∀ j, j < n → 1 ≤ f j) → 1 ≤ minN f n := by
        intro f n
        induction n with
        | zero => intro _; simp [minN]
        | succ n ihn =>
          intro h
          have h1 := ihn (fun j hj => h j (by omega))
          have h2 := h n (by omega)
          simp only [minN]; omega
      exact hmin _ c (fun j hj => by have := hN j (by omega); show 1 ≤ min _ _; omega)
    have key : ∀ x : Nat, 1 ≤ x → x < 1 + 24 → (minN (fun i => min ((NS tk bl (c - 1)).1 i) ((NS tk bl (c - 1)).2 i)) c ≤ (x : Int) ↔ opt c (LCx tk2 bl2 (x : Int)) (RCx tk2 bl2 (x : Int)) FAR c 0 0 < FAR) := by
      intro x x1 x2
      have hfw := NS_fw (ρ := (x : Int)) hm (by omega) (c - 1) (by omega)
      rw [← opt_cong (LC := LCc tk bl (x : Int)) (RC := RCc tk bl (x : Int)) (fun k l r a b d => LC_eq hm h a b d) (fun k l r a b d => RC_eq hm h a b d) c 0 0 (Nat.le_refl c) (by omega) (by omega), fw_opt hm c (Nat.le_refl c), minN_le (by omega), Nat.sub_self]
      rw [show c - 1 + 1 = c by omega] at hfw
      constructor
      · rintro ⟨i, i1, i2⟩
        have hf := hfw i (by omega)
        by_cases z : (NS tk bl (c - 1)).1 i ≤ (x : Int)
        · exact ⟨c, i, hf.1.mp z, by simp [opt, FAR]⟩
        · exact ⟨i, c, hf.2.mp (by have i2 : min _ _ ≤ (x : Int) := i2; omega), by simp [opt, FAR]⟩
      · rintro ⟨l, r, f1, -⟩
        have hb := Fw_bd _ _ _ f1
        rcases hb.2.2 (by omega) with ⟨z1, z2⟩ | ⟨z1, z2⟩
        · subst z1
          have := (hfw r (by omega)).1.mpr f1
          exact ⟨r, z2, by show min _ _ ≤ (x : Int); omega⟩
        · subst z1
          have := (hfw l (by omega)).2.mpr f1
          exact ⟨l, z2, by show min _ _ ≤ (x : Int); omega⟩
    rw [ndX_at 24 1 key (by omega)]
    rfl
