/-! ===== the text in its own order: place, LENGTH, groups open ===== -/
def tnx (s : Nat → Int) (t : Nat) (x : Nat × Nat × Nat) : Option (Nat × Nat × Nat) :=
  if IsD (s (nb s t x.1)) then (match opn s t (nb s t x.1) x.2.2 with
    | .inl _ => none
    | .inr (_, e) => some (e, x.2.1, x.2.2 + 1))
  else if s (nb s t x.1) = 125 then (if x.2.2 = 0 then none else some (nb s t x.1 + 1, x.2.1, x.2.2 - 1))
  else if IsI (s (nb s t x.1)) then (match itm s t (nb s t x.1) (s (nb s t x.1)) with
    | .inl _ => none
    | .inr (_, _, _, v, e) => some (e, lenOf v x.2.1, x.2.2))
  else none
def tsc (s : Nat → Int) (t : Nat) : Nat → Option (Nat × Nat × Nat)
  | 0 => some (0, 4, 0)
  | i + 1 => match tsc s t i with
    | none => none
    | some x => tnx s t x
theorem tsc_s {s : Nat → Int} {t i : Nat} {x : Nat × Nat × Nat} (h : tsc s t i = some x) : tsc s t (i + 1) = tnx s t x := by rw [tsc, h]
theorem tsc_p {s : Nat → Int} {t i : Nat} {y : Nat × Nat × Nat} (h : tsc s t (i + 1) = some y) : ∃ x, tsc s t i = some x ∧ tnx s t x = some y := by
  rw [tsc] at h
  rcases hx : tsc s t i with _ | x
  · rw [hx] at h; cases h
  · rw [hx] at h; exact ⟨x, rfl, h⟩
theorem tnx_o {s : Nat → Int} {t p l d e : Nat} {v : Int} (h : IsD (s (nb s t p))) (h2 : opn s t (nb s t p) d = .inr (v, e)) : tnx s t (p, l, d) = some (e, l, d + 1) := by
  unfold tnx; dsimp only; rw [if_pos h, h2]
theorem tnx_c {s : Nat → Int} {t p l d : Nat} (h : s (nb s t p) = 125) (h2 : d ≠ 0) : tnx s t (p, l, d) = some (nb s t p + 1, l, d - 1) := by
  unfold tnx; dsimp only; rw [if_neg (by unfold IsD; omega), if_pos h, if_neg h2]
theorem tnx_i {s : Nat → Int} {t p l d m a b e : Nat} {v : Int} (h : IsI (s (nb s t p))) (h2 : itm s t (nb s t p) (s (nb s t p)) = .inr (m, a, b, v, e)) : tnx s t (p, l, d) = some (e, lenOf v l, d) := by
  unfold tnx; dsimp only; rw [if_neg (by unfold IsI at h; unfold IsD; omega), if_neg (by unfold IsI at h; omega), if_pos h, h2]
/-- a part takes at least a sign -/
theorem tnx_bd {s : Nat → Int} {t : Nat} {x y : Nat × Nat × Nat} (hs : Sg s t) (hp : x.1 ≤ t) (hl : 1 ≤ x.2.1 ∧ x.2.1 ≤ 64) (h : tnx s t x = some y) : nb s t x.1 < y.1 ∧ y.1 ≤ t ∧ (1 ≤ y.2.1 ∧ y.2.1 ≤ 64) := by
  have h2 := nb_le (s := s) hp
  unfold tnx at h
  split at h
  · rcases ho : opn s t (nb s t x.1) x.2.2 with f | ⟨v, e⟩
    · rw [ho] at h; cases h
    · rw [ho] at h
      have k := opn_ok hs h2 ho
      injection h with h
      subst h
      exact ⟨by show nb s t x.1 < e; omega, k.2.2.2.2.1, hl⟩
  · split at h
    · rename_i hx
      have hlt := hs.lt (p := nb s t x.1) (by omega)
      split at h
      · cases h
      · injection h with h
        subst h
        exact ⟨by show nb s t x.1 < nb s t x.1 + 1; omega, by show nb s t x.1 + 1 ≤ t; omega, hl⟩
    · split at h
      · rename_i hx
        have hlt := hs.lt (p := nb s t x.1) (by unfold IsI at hx; omega)
        rcases hi : itm s t (nb s t x.1) (s (nb s t x.1)) with f | ⟨m, a, b, v, e⟩
        · rw [hi] at h; cases h
        · rw [hi] at h
          have k := itm_ok hs hlt hi
          injection h with h
          subst h
          exact ⟨k.2.2.2.2.2.2.1, k.2.2.2.2.2.2.2, lenOf_bd ⟨k.2.2.2.2.1, k.2.2.2.2.2.1⟩ hl⟩
      · cases h
theorem tsc_bd {s : Nat → Int} {t : Nat} (hs : Sg s t) : ∀ (i : Nat) (y : Nat × Nat × Nat), tsc s t i = some y → y.1 ≤ t ∧ (1 ≤ y.2.1 ∧ y.2.1 ≤ 64) ∧ i ≤ y.1
  | 0, y, h => by
    injection h with h
    subst h
    exact ⟨Nat.zero_le _, by decide, Nat.le_refl _⟩
  | i + 1, y, h => by
    obtain ⟨x, h1, h2⟩ := tsc_p h
    have k := tsc_bd hs i x h1
    have k2 := tnx_bd hs k.1 k.2.1 h2
    have := nb_ge s t x.1
    exact ⟨k2.2.1, k2.2.2, by omega⟩
theorem tsc_mono {s : Nat → Int} {t : Nat} (hs : Sg s t) {i : Nat} {x : Nat × Nat × Nat} (hx : tsc s t i = some x) : ∀ (d : Nat) (y : Nat × Nat × Nat), tsc s t (i + d) = some y → x.1 ≤ y.1 ∧ (0 < d → nb s t x.1 < y.1)
  | 0, y, h => by
    rw [Nat.add_zero, hx] at h
    injection h with h
    subst h
    exact ⟨Nat.le_refl _, fun h => absurd h (by omega)⟩
  | d + 1, y, h => by
    obtain ⟨z, h1, h2⟩ := tsc_p (i := i + d) h
    have k := tsc_mono hs hx d z h1
    have kb := tsc_bd hs _ z h1
    have k2 := tnx_bd hs kb.1 kb.2.1 h2
    have k3 := nb_ge s t z.1
    refine ⟨by omega, fun _ => ?_⟩
    rcases Nat.eq_zero_or_pos d with e | e
    · subst e
      rw [Nat.add_zero, hx] at h1
      injection h1 with h1
      subst h1
      exact k2.1
    · have := k.2 e; omega
/-- the close of a group: the first one at its own depth -/
def isC (s : Nat → Int) (t d i : Nat) : Bool := match tsc s t i with
  | some y => decide (s (nb s t y.1) = 125 ∧ y.2.2 = d)
  | none => false
def cloF (s : Nat → Int) (t d : Nat) : Nat → Nat → Nat
  | 0, i => i
  | f + 1, i => if isC s t d i = true then i else cloF s t d f (i + 1)
theorem cloF_at {s : Nat → Int} {t d : Nat} {i : Nat} (h : isC s t d i = true) : ∀ (f j : Nat), j ≤ i → i ≤ j + f → (∀ k, j ≤ k → k < i → isC s t d k = false) → cloF s t d f j = i
  | 0, j, h1, h2, _ => by show j = i; omega
  | f + 1, j, h1, h2, h3 => by
    rw [cloF]
    by_cases e : j = i
    · subst e; rw [if_pos h]
    · rw [h3 j (Nat.le_refl j) (by omega), if_neg (by decide)]
      exact cloF_at h f (j + 1) (by omega) (by omega) (fun k k1 k2 => h3 k (by omega) k2)
/-- the place of a group's close -/
def clop (s : Nat → Int) (t d j : Nat) : Nat := match tsc s t (cloF s t d 1001 j) with
  | some y => nb s t y.1
  | none => 0
theorem clop_le {s : Nat → Int} {t : Nat} (hs : Sg s t) (d j : Nat) : clop s t d j ≤ t := by
  unfold clop
  rcases h : tsc s t (cloF s t d 1001 j) with _ | y
  · exact Nat.zero_le _
  · exact nb_le (tsc_bd hs _ y h).1
/-- the open groups, as the text has them -/
def EntOK (s : Nat → Int) (t : Nat) : List Ent → Nat → Prop
  | [], _ => True
  | e :: l, i => tsc s t e.j = some (e.b, e.la, l.length + 1) ∧ e.j ≤ i ∧ (∀ j, e.j ≤ j → j ≤ i → ∃ y, tsc s t j = some y ∧ l.length + 1 ≤ y.2.2) ∧ EntOK s t l e.j
theorem EntOK.ext {s : Nat → Int} {t : Nat} : ∀ {st : List Ent} {i : Nat} {y : Nat × Nat × Nat}, EntOK s t st i → tsc s t (i + 1) = some y → st.length ≤ y.2.2 → EntOK s t st (i + 1)
  | [], _, _, _, _, _ => trivial
  | e :: l, i, y, h, h1, h2 => ⟨h.1, Nat.le_succ_of_le h.2.1, fun j j1 j2 => by
      by_cases z : j = i + 1
      · subst z; exact ⟨y, h1, h2⟩
      · exact h.2.2.1 j j1 (by omega), h.2.2.2⟩
theorem EntOK.pop {s : Nat → Int} {t : Nat} {e : Ent} {l : List Ent} {i : Nat} {y : Nat × Nat × Nat} (h : EntOK s t (e :: l) i) (h1 : tsc s t (i + 1) = some y) (h2 : l.length ≤ y.2.2) : EntOK s t l (i + 1) := by
  obtain ⟨a1, a2, a3, a4⟩ := h
  rcases l with _ | ⟨e2, l2⟩
  · trivial
  · obtain ⟨b1, b2, b3, b4⟩ := a4
    refine ⟨b1, by omega, fun j j1 j2 => ?_, b4⟩
    by_cases z : j = i + 1
    · subst z; exact ⟨y, h1, h2⟩
    · rcases Nat.lt_or_ge j e.j with q | q
      · exact b3 j j1 (by omega)
      · obtain ⟨w, w1, w2⟩ := a3 j q (by omega)
        have : (e2 :: l2).length = l2.length + 1 := rfl
        exact ⟨w, w1, by omega⟩
theorem EntOK.rep {s : Nat → Int} {t : Nat} {e e2 : Ent} {l : List Ent} {i : Nat} (h : EntOK s t (e :: l) i) (h1 : e2.j = e.j) (h2 : e2.b = e.b) (h3 : e2.la = e.la) : EntOK s t (e2 :: l) e.j := by
  obtain ⟨a1, a2, a3, a4⟩ := h
  refine ⟨by rw [h1, h2, h3]; exact a1, by rw [h1]; exact Nat.le_refl _, fun j j1 j2 => a3 j (by omega) (by omega), by rw [h1]; exact a4⟩
/-- where a group closes, in whatever round -/
theorem clop_at {s : Nat → Int} {t : Nat} (hs : Sg s t) {e : Ent} {l : List Ent} {i p len : Nat} (h : EntOK s t (e :: l) i) (hi : tsc s t i = some (p, len, l.length + 1)) (hc : s (nb s t p) = 125) : clop s t (l.length + 1) e.j = nb s t p := by
  obtain ⟨a1, a2, a3, a4⟩ := h
  have hb := tsc_bd hs i _ hi
  have ht := hs.1
  have hci : isC s t (l.length + 1) i = true := by
    unfold isC; rw [hi]; exact decide_eq_true ⟨hc, rfl⟩
  have hcl : cloF s t (l.length + 1) 1001 e.j = i := by
    refine cloF_at hci 1001 e.j a2 (by have : i ≤ p := hb.2.2; have : p ≤ t := hb.1; omega) (fun k k1 k2 => ?_)
    rcases hk : isC s t (l.length + 1) k with _ | _
    · rfl
    · unfold isC at hk
      rcases hy : tsc s t k with _ | ⟨p2, l2, d2⟩
      · rw [hy] at hk; cases hk
      · rw [hy] at hk
        have hk2 := of_decide_eq_true hk
        have e1 : d2 = l.length + 1 := hk2.2
        obtain ⟨w, w1, w2⟩ := a3 (k + 1) (by omega) (by omega)
        rw [tsc_s hy, tnx_c hk2.1 (by omega)] at w1
        injection w1 with w1
        subst w1
        have : l.length + 1 ≤ d2 - 1 := w2
        omega
  unfold clop
  rw [hcl, hi]
/-- what the class's reading knows of its own place -/
def Ix (s : Nat → Int) (t : Nat) (x : CS) : Prop := tsc s t x.i = some (x.p, x.len, x.st.length) ∧ EntOK s t x.st x.i
theorem ix0 (s : Nat → Int) (t : Nat) : Ix s t cs0 := ⟨rfl, trivial⟩
/-- the steps of the class's reading, one by one -/
theorem cstep_cases {s : Nat → Int} {t : Nat} {x y : CS} (h : cstep s t x = .inr (some y)) :
    (IsD (s (nb s t x.p)) ∧ ∃ (v : Int) (e : Nat), opn s t (nb s t x.p) x.st.length = .inr (v, e) ∧ y = ((e, (nb s t x.p, e, v.toNat, 0, x.len, x.tk, x.i + 1) :: x.st, x.len, x.tk, x.c, x.ft, x.fb, x.i + 1) : CS)) ∨
    (s (nb s t x.p) = 125 ∧ ∃ (e : Ent) (l : List Ent), x.st = e :: l ∧ (1 < e.r ∧ e.ta < x.tk) ∧ y = ((e.b, (e.g, e.b, e.r - 1, e.u + 1, e.la, e.ta, e.j) :: l, e.la, x.tk, x.c, x.ft, x.fb, e.j) : CS)) ∨
    (s (nb s t x.p) = 125 ∧ ∃ (e : Ent) (l : List Ent), x.st = e :: l ∧ ¬ (1 < e.r ∧ e.ta < x.tk) ∧ y = ((nb s t x.p + 1, l, x.len, x.tk, x.c, x.ft, x.fb, x.i + 1) : CS)) ∨
    (IsI (s (nb s t x.p)) ∧ ¬ 1999 < x.tk ∧ ∃ (m a b : Nat) (v : Int) (e : Nat), itm s t (nb s t x.p) (s (nb s t x.p)) = .inr (m, a, b, v, e) ∧ ¬ 100 < x.c + addOf (s (nb s t x.p)) m (lenOf v x.len) ∧ y = ((e, x.st, lenOf v x.len, x.tk + lenOf v x.len, x.c + addOf (s (nb s t x.p)) m (lenOf v x.len), exF x.ft x.c (ftI (s (nb s t x.p)) x.tk), exF x.fb x.c (fbI (s (nb s t x.p)) m a b), x.i + 1) : CS)) := by
  unfold cstep at h
  split at h
  · rename_i hd
    unfold cOpn at h
    rcases ho : opn s t (nb s t x.p) x.st.length with f | ⟨v, e⟩
    · rw [ho] at h; cases h
    · rw [ho] at h
      injection h with h
      injection h with h
      exact Or.inl ⟨hd, v, e, rfl, h.symm⟩
  · split at h
    · rename_i hc
      unfold cCls at h
      rcases hst : x.st with _ | ⟨e, l⟩
      · rw [hst] at h; cases h
      · rw [hst] at h
        change (if _ then _ else _) = _ at h
        split at h
        · rename_i hr
          injection h with h
          injection h with h
          exact Or.inr (Or.inl ⟨hc, e, l, rfl, hr, h.symm⟩)
        · rename_i hr
          injection h with h
          injection h with h
          exact Or.inr (Or.inr (Or.inl ⟨hc, e, l, rfl, hr, h.symm⟩))
    · split at h
      · rename_i hi
        unfold cItm at h
        split at h
        · cases h
        · rename_i htk
          rcases hit : itm s t (nb s t x.p) (s (nb s t x.p)) with f | ⟨m, a, b, v, e⟩
          · rw [hit] at h; cases h
          · rw [hit] at h
            change (if _ then _ else _) = _ at h
            split at h
            · cases h
            · rename_i hf
              injection h with h
              injection h with h
              exact Or.inr (Or.inr (Or.inr ⟨hi, htk, m, a, b, v, e, rfl, hf, h.symm⟩))
      · split at h
        · injection h with h; cases h
        · cases h
theorem ix_step {s : Nat → Int} {t : Nat} {x y : CS} (hx : Ix s t x) (h : cstep s t x = .inr (some y)) : Ix s t y := by
  obtain ⟨h1, h2⟩ := hx
  rcases cstep_cases h with ⟨hd, v, e, ho, rfl⟩ | ⟨hc, e, l, hst, hr, rfl⟩ | ⟨hc, e, l, hst, hr, rfl⟩ | ⟨hi, htk, m, a, b, v, e, hit, hf, rfl⟩
  · have hn : tsc s t (x.i + 1) = some (e, x.len, x.st.length + 1) := by rw [tsc_s h1]; exact tnx_o hd ho
    refine ⟨hn, hn, Nat.le_refl _, fun j j1 j2 => ?_, h2.ext hn (Nat.le_succ _)⟩
    have ej : j = x.i + 1 := Nat.le_antisymm j2 j1
    subst ej
    exact ⟨_, hn, Nat.le_refl _⟩
  · rw [hst] at h2
    exact ⟨h2.1, h2.rep rfl rfl rfl⟩
  · rw [hst] at h1 h2
    have hn : tsc s t (x.i + 1) = some (nb s t x.p + 1, x.len, l.length) := by rw [tsc_s h1, tnx_c hc (by simp)]; rfl
    exact ⟨hn, h2.pop hn (Nat.le_refl _)⟩
  · have hn : tsc s t (x.i + 1) = some (e, lenOf v x.len, x.st.length) := by rw [tsc_s h1]; exact tnx_i hi hit
    exact ⟨hn, h2.ext hn (Nat.le_refl _)⟩
