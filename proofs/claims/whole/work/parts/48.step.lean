/-! ===== the reading of a SCORE as a machine of its own ===== -/
theorem chd_ok {s : Nat → Int} {t : Nat} (hs : Sg s t) : ∀ (f p m m2 e : Nat), p ≤ t → m < 2 ^ 24 → popc m 24 ≤ 4 → chd s t f p m = .inr (m2, e) → m2 < 2 ^ 24 ∧ popc m2 24 ≤ 4 ∧ p < e ∧ e ≤ t
  | 0, p, m, m2, e, _, _, _, h => by cases h
  | f + 1, p, m, m2, e, hp, hm, hc, h => by
    have h1 := nb_ge s t p
    have h2 := nb_le (s := s) hp
    rw [chd] at h
    split at h
    · rename_i hx
      have h3 := hs.lt (p := nb s t p) (by omega)
      injection h with h
      injection h with a b
      subst a
      subst b
      exact ⟨hm, hc, by omega, by omega⟩
    · rcases hb : bel s t (nb s t p) m with f2 | ⟨b, e2⟩
      · rw [hb] at h; cases h
      · rw [hb] at h
        obtain ⟨k1, k2, k3, k4, k5⟩ := bel_ok hs h2 hb
        have hpc := popc_or k3 24
        rw [if_pos k1] at hpc
        have := chd_ok hs f e2 (m ||| 2 ^ b) m2 e k2 (Nat.or_lt_two_pow hm (Nat.pow_lt_pow_right (by decide) k1)) (by omega) h
        exact ⟨this.1, this.2.1, by omega, this.2.2.2⟩
theorem msk1 {b : Nat} (h : b < 24) : (0 ||| 2 ^ b) < 2 ^ 24 ∧ popc (0 ||| 2 ^ b) 24 = 1 := by
  have hpc := popc_or (m := 0) (b := b) (by simp) 24
  rw [if_pos h] at hpc
  refine ⟨Nat.or_lt_two_pow (by decide) (Nat.pow_lt_pow_right (by decide) h), ?_⟩
  rw [hpc]
  have : popc 0 24 = 0 := by decide
  omega
theorem bod_ok {s : Nat → Int} {t p : Nat} {x : Int} {m a b e : Nat} (hs : Sg s t) (hp : p < t) (h : bod s t p x = .inr (m, a, b, e)) : m < 2 ^ 24 ∧ popc m 24 ≤ 4 ∧ a < 24 ∧ b < 24 ∧ p < e ∧ e ≤ t := by
  unfold bod at h
  split at h
  · rcases hb : bel s t (p + 1) 0 with f | ⟨b1, e1⟩
    · rw [hb] at h; cases h
    · rw [hb] at h
      obtain ⟨k1, k2, k3, k4, k5⟩ := bel_ok hs (by omega) hb
      have := msk1 k1
      injection h with h
      injection h with a1 h
      injection h with a2 h
      injection h with a3 a4
      subst a1 a2 a3 a4
      refine ⟨this.1, by omega, by omega, by omega, by omega, by omega⟩
  · split at h
    · rcases hb : crd s t (p + 1) with f | ⟨m1, e1⟩
      · rw [hb] at h; cases h
      · rw [hb] at h
        injection h with h
        injection h with a1 h
        injection h with a2 h
        injection h with a3 a4
        subst a1 a2 a3 a4
        unfold crd at hb
        rcases hb1 : bel s t (p + 1) 0 with f | ⟨b1, e2⟩
        · rw [hb1] at hb; cases hb
        · rw [hb1] at hb
          obtain ⟨k1, k2, k3, k4, k5⟩ := bel_ok hs (by omega) hb1
          have h1 := msk1 k1
          have := chd_ok hs 4 e2 _ m1 e1 k2 h1.1 (by omega) hb
          exact ⟨this.1, this.2.1, by omega, by omega, by omega, this.2.2.2⟩
    · split at h
      · rcases hb : bel s t (p + 1) 0 with f | ⟨b1, e1⟩
        · rw [hb] at h; cases h
        · rw [hb] at h
          obtain ⟨k1, k2, k3, k4, k5⟩ := bel_ok hs (by omega) hb
          have h1 := msk1 k1
          change (match bel s t e1 (0 ||| 2 ^ b1) with | .inl f => _ | .inr (b, e2) => _) = _ at h
          rcases hb2 : bel s t e1 (0 ||| 2 ^ b1) with f | ⟨b2, e2⟩
          · rw [hb2] at h; cases h
          · rw [hb2] at h
            obtain ⟨j1, j2, j3, j4, j5⟩ := bel_ok hs k2 hb2
            have hpc := popc_or j3 24
            rw [if_pos j1] at hpc
            injection h with h
            injection h with a1 h
            injection h with a2 h
            injection h with a3 a4
            subst a1 a2 a3 a4
            exact ⟨Nat.or_lt_two_pow h1.1 (Nat.pow_lt_pow_right (by decide) j1), by omega, k1, j1, by omega, j2⟩
      · injection h with h
        injection h with a1 h
        injection h with a2 h
        injection h with a3 a4
        subst a1 a2 a3 a4
        exact ⟨by decide, by decide, by omega, by omega, by omega, by omega⟩
theorem itm_ok {s : Nat → Int} {t p : Nat} {x v : Int} {m a b e : Nat} (hs : Sg s t) (hp : p < t) (h : itm s t p x = .inr (m, a, b, v, e)) : m < 2 ^ 24 ∧ popc m 24 ≤ 4 ∧ a < 24 ∧ b < 24 ∧ 0 ≤ v ∧ v ≤ 64 ∧ p < e ∧ e ≤ t := by
  unfold itm at h
  rcases hb : bod s t p x with f | ⟨m1, a1, b1, e1⟩
  · rw [hb] at h; cases h
  · rw [hb] at h
    have k := bod_ok hs hp hb
    change (match lng s t e1 with | .inl f => _ | .inr (v, e2) => _) = _ at h
    rcases hl : lng s t e1 with f | ⟨v2, e2⟩
    · rw [hl] at h; cases h
    · rw [hl] at h
      have k2 := lng_ok hs k.2.2.2.2.2 hl
      injection h with h
      injection h with y1 h
      injection h with y2 h
      injection h with y3 h
      injection h with y4 y5
      subst y1 y2 y3 y4 y5
      exact ⟨k.1, k.2.1, k.2.2.1, k.2.2.2.1, k2.1, k2.2.1, by omega, k2.2.2.2⟩
theorem opn_ok {s : Nat → Int} {t p o e : Nat} {v : Int} (hs : Sg s t) (hp : p ≤ t) (h : opn s t p o = .inr (v, e)) : 1 ≤ v ∧ v ≤ 9 ∧ o < 4 ∧ p + 3 ≤ e ∧ e ≤ t ∧ nb s t p + 3 ≤ e := by
  unfold opn at h
  rcases hn : num s t p 1 9 with f | ⟨u, q1, e1⟩
  · rw [hn] at h; cases h
  · rw [hn] at h
    obtain ⟨o1, o2, o3, o4, o5, o6⟩ := num_ok hn
    have h1 := nb_ge s t p
    have h2 := nb_ge s t e1
    have h3 := nb_ge s t (nb s t e1 + 1)
    change (if s (nb s t e1) = 120 then _ else _) = _ at h
    split at h
    · split at h
      · rename_i k1 k2
        have := hs.lt (p := nb s t (nb s t e1 + 1)) (by omega)
        split at h
        · cases h
        · injection h with h
          injection h with a1 a2
          subst a1 a2
          exact ⟨o1, o2, by omega, by omega, by omega, by omega⟩
      · cases h
    · cases h
/-- a group under way: its number's place and its body's, rounds left and done, LENGTH and tick ahead, its body's number among the text's parts -/
abbrev Ent : Type := Nat × Nat × Nat × Nat × Nat × Nat × Nat
abbrev Ent.g (e : Ent) : Nat := e.1
abbrev Ent.b (e : Ent) : Nat := e.2.1
abbrev Ent.r (e : Ent) : Nat := e.2.2.1
abbrev Ent.u (e : Ent) : Nat := e.2.2.2.1
abbrev Ent.la (e : Ent) : Nat := e.2.2.2.2.1
abbrev Ent.ta (e : Ent) : Nat := e.2.2.2.2.2.1
abbrev Ent.j (e : Ent) : Nat := e.2.2.2.2.2.2
/-- a reading under way -/
abbrev CS : Type := Nat × List Ent × Nat × Nat × Nat × (Nat → Int) × (Nat → Int) × Nat
abbrev CS.p (x : CS) : Nat := x.1
abbrev CS.st (x : CS) : List Ent := x.2.1
abbrev CS.len (x : CS) : Nat := x.2.2.1
abbrev CS.tk (x : CS) : Nat := x.2.2.2.1
abbrev CS.c (x : CS) : Nat := x.2.2.2.2.1
abbrev CS.ft (x : CS) : Nat → Int := x.2.2.2.2.2.1
abbrev CS.fb (x : CS) : Nat → Int := x.2.2.2.2.2.2.1
abbrev CS.i (x : CS) : Nat := x.2.2.2.2.2.2.2
def cs0 : CS := (0, [], 4, 0, 0, fun _ => 0, fun _ => 0, 0)
abbrev IsI (y : Int) : Prop := y = 98 ∨ y = 40 ∨ y = 95 ∨ y = 116
abbrev IsD (y : Int) : Prop := 48 ≤ y ∧ y ≤ 57
def exF (f : Nat → Int) (c : Nat) (g : Nat → Int) : Nat → Int := fun i => if i < c then f i else g (i - c)
/-- a step's parts, at the place q of a sign that is no blank -/
def cOpn (s : Nat → Int) (t q : Nat) (x : CS) : Flt ⊕ Option CS := match opn s t q x.st.length with
  | .inl f => .inl f
  | .inr (v, e) => .inr (some ((e, (q, e, v.toNat, 0, x.len, x.tk, x.i + 1) :: x.st, x.len, x.tk, x.c, x.ft, x.fb, x.i + 1) : CS))
def cCls (q : Nat) (x : CS) : Flt ⊕ Option CS := match x.st with
  | [] => .inl (1, q)
  | e :: l => if 1 < e.r ∧ e.ta < x.tk then .inr (some ((e.b, (e.g, e.b, e.r - 1, e.u + 1, e.la, e.ta, e.j) :: l, e.la, x.tk, x.c, x.ft, x.fb, e.j) : CS))
    else .inr (some ((q + 1, l, x.len, x.tk, x.c, x.ft, x.fb, x.i + 1) : CS))
def cItm (s : Nat → Int) (t q : Nat) (y : Int) (x : CS) : Flt ⊕ Option CS := if 1999 < x.tk then .inl (4, q) else match itm s t q y with
  | .inl f => .inl f
  | .inr (m, a, b, v, e) => if 100 < x.c + addOf y m (lenOf v x.len) then .inl (4, q) else
    .inr (some ((e, x.st, lenOf v x.len, x.tk + lenOf v x.len, x.c + addOf y m (lenOf v x.len), exF x.ft x.c (ftI y x.tk), exF x.fb x.c (fbI y m a b), x.i + 1) : CS))
def cstep (s : Nat → Int) (t : Nat) (x : CS) : Flt ⊕ Option CS :=
  if IsD (s (nb s t x.p)) then cOpn s t (nb s t x.p) x
  else if s (nb s t x.p) = 125 then cCls (nb s t x.p) x
  else if IsI (s (nb s t x.p)) then cItm s t (nb s t x.p) (s (nb s t x.p)) x
  else if s (nb s t x.p) = -1 ∧ x.st = [] then .inr none else .inl (1, nb s t x.p)
/-- well formed -/
def WF (t : Nat) (x : CS) : Prop := x.p ≤ t ∧ x.st.length ≤ 4 ∧ (1 ≤ x.len ∧ x.len ≤ 64) ∧ x.tk ≤ 2063 ∧ x.c ≤ 100 ∧ ∀ e, e ∈ x.st → e.b ≤ t ∧ 1 ≤ e.r ∧ e.r + e.u ≤ 9 ∧ 1 ≤ e.la ∧ e.la ≤ 64 ∧ e.ta ≤ x.tk ∧ e.g + 3 ≤ e.b
theorem lenOf_bd {v : Int} {l : Nat} (h1 : 0 ≤ v ∧ v ≤ 64) (h2 : 1 ≤ l ∧ l ≤ 64) : 1 ≤ lenOf v l ∧ lenOf v l ≤ 64 := by unfold lenOf; split <;> omega
theorem wf0 (t : Nat) : WF t cs0 := ⟨Nat.zero_le _, by decide, by decide, by decide, by decide, fun e h => by cases h⟩
theorem wf_step {s : Nat → Int} {t : Nat} {x y : CS} (hs : Sg s t) (hw : WF t x) (h : cstep s t x = .inr (some y)) : WF t y := by
  obtain ⟨w1, w2, w3, w4, w5, w6⟩ := hw
  have h1 := nb_ge s t x.p
  have h2 := nb_le (s := s) w1
  unfold cstep at h
  split at h
  · unfold cOpn at h
    rcases ho : opn s t (nb s t x.p) x.st.length with f | ⟨v, e⟩
    · rw [ho] at h; cases h
    · rw [ho] at h
      obtain ⟨k1, k2, k3, k4, k5, k6⟩ := opn_ok hs h2 ho
      injection h with h
      injection h with h
      subst h
      refine ⟨k5, by show x.st.length + 1 ≤ 4; omega, w3, w4, w5, fun e2 he => ?_⟩
      rcases List.mem_cons.mp he with q | q
      · subst q
        refine ⟨k5, by show 1 ≤ v.toNat; omega, by show v.toNat + 0 ≤ 9; omega, w3.1, w3.2, Nat.le_refl _, k4⟩
      · exact w6 e2 q
  · split at h
    · rename_i hx
      have hlt := hs.lt (p := nb s t x.p) (by omega)
      unfold cCls at h
      rcases hst : x.st with _ | ⟨e, l⟩
      · rw [hst] at h; cases h
      · rw [hst] at h
        rw [hst] at w2 w6
        have we := w6 e (List.mem_cons_self ..)
        change (if _ then _ else _) = _ at h
        split at h
        · rename_i hc
          injection h with h
          injection h with h
          subst h
          refine ⟨we.1, w2, ⟨we.2.2.2.1, we.2.2.2.2.1⟩, w4, w5, fun e2 he => ?_⟩
          rcases List.mem_cons.mp he with q | q
          · subst q
            refine ⟨we.1, by show 1 ≤ e.r - 1; omega, by show e.r - 1 + (e.u + 1) ≤ 9; omega, we.2.2.2.1, we.2.2.2.2.1, we.2.2.2.2.2.1, we.2.2.2.2.2.2⟩
          · exact w6 e2 (List.mem_cons_of_mem _ q)
        · injection h with h
          injection h with h
          subst h
          refine ⟨by show nb s t x.p + 1 ≤ t; omega, by show l.length ≤ 4; have : l.length + 1 ≤ 4 := w2; omega, w3, w4, w5, fun e2 he => w6 e2 (List.mem_cons_of_mem _ he)⟩
    · split at h
      · rename_i hx
        have hlt := hs.lt (p := nb s t x.p) (by unfold IsI at hx; omega)
        unfold cItm at h
        split at h
        · cases h
        · rcases hi : itm s t (nb s t x.p) (s (nb s t x.p)) with f | ⟨m, a, b, v, e⟩
          · rw [hi] at h; cases h
          · rw [hi] at h
            have k := itm_ok hs hlt hi
            have hl := lenOf_bd ⟨k.2.2.2.2.1, k.2.2.2.2.2.1⟩ w3
            change (if _ then _ else _) = _ at h
            split at h
            · cases h
            · injection h with h
              injection h with h
              subst h
              refine ⟨k.2.2.2.2.2.2.2, w2, hl, by show x.tk + lenOf v x.len ≤ 2063; omega, by show x.c + _ ≤ 100; omega, fun e2 he => ?_⟩
              have := w6 e2 he
              exact ⟨this.1, this.2.1, this.2.2.1, this.2.2.2.1, this.2.2.2.2.1, by show e2.ta ≤ x.tk + lenOf v x.len; omega, this.2.2.2.2.2.2⟩
      · split at h
        · injection h with h; cases h
        · cases h
/-- a reading with a bound of its parts -/
def crun (s : Nat → Int) (t : Nat) : Nat → CS → Option (Flt ⊕ CS)
  | 0, _ => none
  | f + 1, x => match cstep s t x with
    | .inl e => some (.inl e)
    | .inr none => some (.inr x)
    | .inr (some y) => crun s t f y
