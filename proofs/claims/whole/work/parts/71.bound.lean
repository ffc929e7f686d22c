/-! ===== how many parts a text has, all repeats counted ===== -/
def wt (k : Nat) : Nat := if k = 0 then 729 else if k = 1 then 81 else if k = 2 then 9 else if k = 3 then 1 else 0
def bas : List Ent → Nat
  | [] => 0
  | e :: _ => e.b
/-- signs gone through, each as often as it may be at most -/
def clk (s : Nat → Int) (t : Nat) : List Ent → Nat
  | [] => 0
  | e :: l => clk s t l + wt l.length * (e.b - bas l) + wt (l.length + 1) * (e.u * (clop s t (l.length + 1) e.j - e.b))
def rp : List Ent → Nat
  | [] => 0
  | e :: l => 8 * e.ta + e.u + rp l
def UOK (tk : Nat) : List Ent → Prop
  | [] => True
  | e :: l => (0 < e.u → e.ta < tk) ∧ e.ta ≤ tk ∧ e.r + e.u ≤ 9 ∧ 1 ≤ e.r ∧ UOK tk l
theorem UOK.mono {tk tk2 : Nat} (h : tk ≤ tk2) : ∀ {l : List Ent}, UOK tk l → UOK tk2 l
  | [], _ => trivial
  | e :: l, hu => ⟨fun q => Nat.lt_of_lt_of_le (hu.1 q) h, Nat.le_trans hu.2.1 h, hu.2.2.1, hu.2.2.2.1, hu.2.2.2.2.mono h⟩
theorem rp_le {tk : Nat} : ∀ {l : List Ent}, UOK tk l → rp l ≤ l.length * (8 * tk + 8)
  | [], _ => Nat.zero_le _
  | e :: l, hu => by
    have := rp_le hu.2.2.2.2
    obtain ⟨u1, u2, u3, u4, -⟩ := hu
    have h9 : (l.length + 1) * (8 * tk + 8) = l.length * (8 * tk + 8) + (8 * tk + 8) := Nat.succ_mul _ _
    show 8 * e.ta + e.u + rp l ≤ (l.length + 1) * (8 * tk + 8)
    omega
theorem wt_9 {k : Nat} : 9 * wt (k + 1) ≤ wt k := by
  unfold wt
  by_cases h0 : k = 0
  · subst h0; decide
  · by_cases h1 : k = 1
    · subst h1; decide
    · by_cases h2 : k = 2
      · subst h2; decide
      · by_cases h3 : k = 3
        · subst h3; decide
        · simp [h0, h1, h2, h3, show ¬ k + 1 = 1 by omega, show ¬ k + 1 = 2 by omega, show ¬ k + 1 = 3 by omega]
theorem wt_1 {k : Nat} (h : k < 4) : 1 ≤ wt k := by
  have : k = 0 ∨ k = 1 ∨ k = 2 ∨ k = 3 := by omega
  rcases this with e | e | e | e <;> subst e <;> decide
/-- places of the open groups: from below -/
def BOK : List Ent → Nat → Prop
  | [], _ => True
  | e :: l, p => e.b ≤ p ∧ BOK l e.b
theorem bok_of {s : Nat → Int} {t : Nat} (hs : Sg s t) : ∀ {st : List Ent} {i : Nat} {y : Nat × Nat × Nat}, EntOK s t st i → tsc s t i = some y → BOK st y.1
  | [], _, _, _, _ => trivial
  | e :: l, i, y, h, hy => by
    obtain ⟨a1, a2, a3, a4⟩ := h
    have := tsc_mono hs a1 (i - e.j) y (by rw [show e.j + (i - e.j) = i by omega]; exact hy)
    exact ⟨this.1, bok_of hs a4 a1⟩
theorem BOK.bas_le : ∀ {st : List Ent} {p : Nat}, BOK st p → bas st ≤ p
  | [], _, _ => Nat.zero_le _
  | _ :: _, _, h => h.1
/-- the whole: 729 times the text at most -/
theorem clk_le {s : Nat → Int} {t : Nat} (hs : Sg s t) {tk : Nat} : ∀ {st : List Ent} {p : Nat}, UOK tk st → BOK st p → p ≤ t → clk s t st + wt st.length * (t - bas st) ≤ 729 * t
  | [], p, _, _, _ => by show 0 + 729 * (t - 0) ≤ 729 * t; omega
  | e :: l, p, hu, hb, hp => by
    have ih := clk_le hs hu.2.2.2.2 hb.2 (Nat.le_trans hb.1 hp)
    have hbl := hb.2.bas_le
    have hw := wt_9 (k := l.length)
    have hc := clop_le hs (l.length + 1) e.j
    have hu8 : e.u ≤ 8 := by have := hu.2.2.1; have := hu.2.2.2.1; omega
    have hbt : e.b ≤ t := Nat.le_trans hb.1 hp
    have h1 : e.u * (clop s t (l.length + 1) e.j - e.b) ≤ 8 * (t - e.b) := Nat.mul_le_mul hu8 (by omega)
    show clk s t l + wt l.length * (e.b - bas l) + wt (l.length + 1) * (e.u * (clop s t (l.length + 1) e.j - e.b)) + wt (l.length + 1) * (t - e.b) ≤ 729 * t
    have h2 : wt (l.length + 1) * (e.u * (clop s t (l.length + 1) e.j - e.b)) ≤ wt (l.length + 1) * (8 * (t - e.b)) := Nat.mul_le_mul_left _ h1
    have h3 : wt (l.length + 1) * (8 * (t - e.b)) + wt (l.length + 1) * (t - e.b) = 9 * wt (l.length + 1) * (t - e.b) := by
      rw [← Nat.mul_add, show 8 * (t - e.b) + (t - e.b) = 9 * (t - e.b) by omega, ← Nat.mul_assoc, Nat.mul_comm (wt (l.length + 1)) 9]
    have h4 : 9 * wt (l.length + 1) * (t - e.b) ≤ wt l.length * (t - e.b) := Nat.mul_le_mul_right _ hw
    have h5 : wt l.length * (e.b - bas l) + wt l.length * (t - e.b) = wt l.length * (t - bas l) := by
      rw [← Nat.mul_add]; congr 1; omega
    omega
/-- what the class's reading has used up -/
def Cx2 (s : Nat → Int) (t : Nat) (x : CS) : Nat := clk s t x.st + wt x.st.length * (x.p - bas x.st)
def Pn (s : Nat → Int) (t : Nat) (x : CS) (n : Nat) : Prop := 3 * n + 3 * x.st.length ≤ 2 * Cx2 s t x + 3 * (rp x.st + (4 - x.st.length) * (8 * x.tk)) + 3 * x.tk ∧ UOK x.tk x.st
theorem pn_step {s : Nat → Int} {t : Nat} {x y : CS} {n : Nat} (hs : Sg s t) (hw : WF t x) (hx : Ix s t x) (hp : Pn s t x n) (h : cstep s t x = .inr (some y)) : Pn s t y (n + 1) := by
  obtain ⟨p1, p2⟩ := hp
  obtain ⟨x1, x2⟩ := hx
  obtain ⟨w1, w2, w3, w4, w5, w6⟩ := hw
  have hB := bok_of hs x2 x1
  have hbs : bas x.st ≤ x.p := hB.bas_le
  have hge := nb_ge s t x.p
  have hle := nb_le (s := s) w1
  unfold Cx2 at p1
  rcases cstep_cases h with ⟨hd, v, e, ho, rfl⟩ | ⟨hc, e, l, hst, hr, rfl⟩ | ⟨hc, e, l, hst, hr, rfl⟩ | ⟨hi, htk, m, a, b, v, e, hit, hf, rfl⟩
  · have k := opn_ok hs hle ho
    refine ⟨?_, ⟨fun q => absurd q (Nat.lt_irrefl 0), Nat.le_refl _, by show v.toNat + 0 ≤ 9; omega, by show 1 ≤ v.toNat; omega, p2⟩⟩
    show 3 * (n + 1) + 3 * (x.st.length + 1) ≤ 2 * (clk s t x.st + wt x.st.length * (e - bas x.st) + wt (x.st.length + 1) * (0 * _) + wt (x.st.length + 1) * (e - e)) + 3 * (8 * x.tk + 0 + rp x.st + (4 - (x.st.length + 1)) * (8 * x.tk)) + 3 * x.tk
    have hk1 := wt_1 k.2.2.1
    have h1 : wt x.st.length * (e - bas x.st) = wt x.st.length * (x.p - bas x.st) + wt x.st.length * (e - x.p) := by rw [← Nat.mul_add]; congr 1; omega
    have h2 : 3 ≤ wt x.st.length * (e - x.p) := Nat.le_trans (by omega : 3 ≤ 1 * (e - x.p)) (Nat.mul_le_mul_right _ hk1)
    have h3 : (4 - x.st.length) * (8 * x.tk) = (4 - (x.st.length + 1)) * (8 * x.tk) + 8 * x.tk := by
      rw [show 4 - x.st.length = (4 - (x.st.length + 1)) + 1 by omega, Nat.succ_mul]
    rw [Nat.zero_mul, Nat.mul_zero, Nat.sub_self, Nat.mul_zero]
    omega
  · rw [hst] at p1 p2 x1 x2 hB
    have hcl := clop_at hs x2 x1 hc
    obtain ⟨u1, u2, u3, u4, u5⟩ := p2
    refine ⟨?_, ⟨fun _ => hr.2, u2, by show e.r - 1 + (e.u + 1) ≤ 9; omega, by show 1 ≤ e.r - 1; omega, u5⟩⟩
    have p1 : 3 * n + 3 * (l.length + 1) ≤ 2 * (clk s t l + wt l.length * (e.b - bas l) + wt (l.length + 1) * (e.u * (clop s t (l.length + 1) e.j - e.b)) + wt (l.length + 1) * (x.p - e.b)) + 3 * (8 * e.ta + e.u + rp l + (4 - (l.length + 1)) * (8 * x.tk)) + 3 * x.tk := p1
    show 3 * (n + 1) + 3 * (l.length + 1) ≤ 2 * (clk s t l + wt l.length * (e.b - bas l) + wt (l.length + 1) * ((e.u + 1) * (clop s t (l.length + 1) e.j - e.b)) + wt (l.length + 1) * (e.b - e.b)) + 3 * (8 * e.ta + (e.u + 1) + rp l + (4 - (l.length + 1)) * (8 * x.tk)) + 3 * x.tk
    rw [hcl] at p1 ⊢
    have h1 : wt (l.length + 1) * ((e.u + 1) * (nb s t x.p - e.b)) = wt (l.length + 1) * (e.u * (nb s t x.p - e.b)) + wt (l.length + 1) * (nb s t x.p - e.b) := by rw [Nat.succ_mul, Nat.mul_add]
    have h2 : wt (l.length + 1) * (x.p - e.b) ≤ wt (l.length + 1) * (nb s t x.p - e.b) := Nat.mul_le_mul_left _ (by omega)
    omega
  · rw [hst] at p1 p2 x1 x2 hB w2
    have hcl := clop_at hs x2 x1 hc
    obtain ⟨u1, u2, u3, u4, u5⟩ := p2
    refine ⟨?_, u5⟩
    have p1 : 3 * n + 3 * (l.length + 1) ≤ 2 * (clk s t l + wt l.length * (e.b - bas l) + wt (l.length + 1) * (e.u * (clop s t (l.length + 1) e.j - e.b)) + wt (l.length + 1) * (x.p - e.b)) + 3 * (8 * e.ta + e.u + rp l + (4 - (l.length + 1)) * (8 * x.tk)) + 3 * x.tk := p1
    have w2 : l.length + 1 ≤ 4 := w2
    show 3 * (n + 1) + 3 * l.length ≤ 2 * (clk s t l + wt l.length * (nb s t x.p + 1 - bas l)) + 3 * (rp l + (4 - l.length) * (8 * x.tk)) + 3 * x.tk
    rw [hcl] at p1
    have hbl : bas l ≤ e.b := hB.2.bas_le
    have hbp : e.b ≤ x.p := hB.1
    have h1 : wt (l.length + 1) * (e.u * (nb s t x.p - e.b)) ≤ wt (l.length + 1) * (8 * (nb s t x.p - e.b)) := Nat.mul_le_mul_left _ (Nat.mul_le_mul_right _ (by omega))
    have h2 : wt (l.length + 1) * (x.p - e.b) ≤ wt (l.length + 1) * (nb s t x.p - e.b) := Nat.mul_le_mul_left _ (by omega)
    have h3 : wt (l.length + 1) * (8 * (nb s t x.p - e.b)) + wt (l.length + 1) * (nb s t x.p - e.b) = 9 * wt (l.length + 1) * (nb s t x.p - e.b) := by
      rw [← Nat.mul_add, show 8 * (nb s t x.p - e.b) + (nb s t x.p - e.b) = 9 * (nb s t x.p - e.b) by omega, ← Nat.mul_assoc, Nat.mul_comm (wt (l.length + 1)) 9]
    have h4 : 9 * wt (l.length + 1) * (nb s t x.p - e.b) ≤ wt l.length * (nb s t x.p - e.b) := Nat.mul_le_mul_right _ wt_9
    have h5 : wt l.length * (e.b - bas l) + wt l.length * (nb s t x.p - e.b) = wt l.length * (nb s t x.p - bas l) := by
      rw [← Nat.mul_add]; congr 1; omega
    have h6 : wt l.length * (nb s t x.p - bas l) ≤ wt l.length * (nb s t x.p + 1 - bas l) := Nat.mul_le_mul_left _ (by omega)
    have h7 : (4 - l.length) * (8 * x.tk) = (4 - (l.length + 1)) * (8 * x.tk) + 8 * x.tk := by
      rw [show 4 - l.length = (4 - (l.length + 1)) + 1 by omega, Nat.succ_mul]
    have h8 : 8 * e.ta + e.u ≤ 8 * x.tk := by
      rcases Nat.eq_zero_or_pos e.u with q | q
      · omega
      · have := u1 q; omega
    omega
  · have hlt := hs.lt (p := nb s t x.p) (by unfold IsI at hi; omega)
    have k := itm_ok hs hlt hit
    have hl := lenOf_bd ⟨k.2.2.2.2.1, k.2.2.2.2.2.1⟩ w3
    refine ⟨?_, p2.mono (by show x.tk ≤ x.tk + _; omega)⟩
    show 3 * (n + 1) + 3 * x.st.length ≤ 2 * (clk s t x.st + wt x.st.length * (e - bas x.st)) + 3 * (rp x.st + (4 - x.st.length) * (8 * (x.tk + lenOf v x.len))) + 3 * (x.tk + lenOf v x.len)
    have h1 : wt x.st.length * (x.p - bas x.st) ≤ wt x.st.length * (e - bas x.st) := Nat.mul_le_mul_left _ (by omega)
    have h2 : (4 - x.st.length) * (8 * x.tk) ≤ (4 - x.st.length) * (8 * (x.tk + lenOf v x.len)) := Nat.mul_le_mul_left _ (by omega)
    omega
theorem pn_bd {s : Nat → Int} {t : Nat} {x : CS} {n : Nat} (hs : Sg s t) (hw : WF t x) (hx : Ix s t x) (hp : Pn s t x n) : n ≤ 700000 := by
  obtain ⟨p1, p2⟩ := hp
  obtain ⟨x1, x2⟩ := hx
  obtain ⟨w1, w2, w3, w4, w5, w6⟩ := hw
  have hB := bok_of hs x2 x1
  have h1 := clk_le hs p2 hB w1
  have h2 : wt x.st.length * (x.p - bas x.st) ≤ wt x.st.length * (t - bas x.st) := Nat.mul_le_mul_left _ (by omega)
  have h3 := rp_le p2
  have h4 : x.st.length * (8 * x.tk + 8) ≤ 4 * (8 * x.tk + 8) := Nat.mul_le_mul_right _ w2
  have h5 : (4 - x.st.length) * (8 * x.tk) ≤ 4 * (8 * x.tk) := Nat.mul_le_mul_right _ (by omega)
  have h6 := hs.1
  unfold Cx2 at p1
  omega
/-- the class's reading ends, well ahead of its bound -/
theorem crun_go {s : Nat → Int} {t : Nat} (hs : Sg s t) : ∀ n : Nat, (∃ f r, f ≤ n ∧ crun s t f cs0 = some r) ∨ (∃ x, WF t x ∧ Ix s t x ∧ Pn s t x n ∧ ∀ F, crun s t (n + F) cs0 = crun s t F x)
  | 0 => Or.inr ⟨cs0, wf0 t, ix0 s t, ⟨Nat.zero_le _, trivial⟩, fun F => by rw [Nat.zero_add]⟩
  | n + 1 => by
    rcases crun_go hs n with ⟨f, r, h1, h2⟩ | ⟨x, h1, h2, h3, h4⟩
    · exact Or.inl ⟨f, r, by omega, h2⟩
    · rcases hc : cstep s t x with e | o
      · refine Or.inl ⟨n + 1, .inl e, Nat.le_refl _, ?_⟩
        rw [h4 1, crun, hc]
      · rcases o with _ | y
        · refine Or.inl ⟨n + 1, .inr x, Nat.le_refl _, ?_⟩
          rw [h4 1, crun, hc]
        · refine Or.inr ⟨y, wf_step hs h1 hc, ix_step h2 hc, pn_step hs h1 h2 h3 hc, fun F => ?_⟩
          rw [Nat.add_assoc, Nat.add_comm 1 F, h4 (F + 1), crun, hc]
theorem crun_ends {s : Nat → Int} {t : Nat} (hs : Sg s t) : ∃ f r, f ≤ 1000000 ∧ crun s t f cs0 = some r := by
  rcases crun_go hs 1000000 with h | ⟨x, h1, h2, h3, -⟩
  · exact h
  · have := pn_bd hs h1 h2 h3
    exact absurd this (by omega)
