/-! ===== the reference reads as the class does ===== -/
/-- from a to b without an ITEM, all groups closed again, o open ahead -/
def EmpF (s : Nat → Int) (t : Nat) : Nat → Nat → Nat → Nat → Prop
  | 0, _, a, b => a = b
  | f + 1, o, a, b => a = b ∨ ∃ (p0 : Nat) (v : Int) (e p1 : Nat), EmpF s t f o a p0 ∧ opn s t (nb s t p0) o = .inr (v, e) ∧ EmpF s t f (o + 1) e p1 ∧ s (nb s t p1) = 125 ∧ b = nb s t p1 + 1
theorem empF_up {s : Nat → Int} {t : Nat} : ∀ (f o a b : Nat), EmpF s t f o a b → EmpF s t (f + 1) o a b
  | 0, _, _, _, h => Or.inl h
  | f + 1, o, a, b, h => by
    rcases h with h | ⟨p0, v, e, p1, h1, h2, h3, h4, h5⟩
    · exact Or.inl h
    · exact Or.inr ⟨p0, v, e, p1, empF_up f o a p0 h1, h2, empF_up f (o + 1) e p1 h3, h4, h5⟩
theorem empF_le {s : Nat → Int} {t f o a b : Nat} (h : EmpF s t f o a b) : ∀ d, EmpF s t (f + d) o a b
  | 0 => h
  | d + 1 => empF_up _ _ _ _ (empF_le h d)
def Emp (s : Nat → Int) (t o a b : Nat) : Prop := ∃ f, EmpF s t f o a b
theorem Emp.cls {s : Nat → Int} {t o a p0 e p1 : Nat} {v : Int} (h1 : Emp s t o a p0) (h2 : opn s t (nb s t p0) o = .inr (v, e)) (h3 : Emp s t (o + 1) e p1) (h4 : s (nb s t p1) = 125) : Emp s t o a (nb s t p1 + 1) := by
  obtain ⟨f1, h1⟩ := h1
  obtain ⟨f3, h3⟩ := h3
  refine ⟨f1 + f3 + 1, Or.inr ⟨p0, v, e, p1, empF_le h1 f3, h2, ?_, h4, rfl⟩⟩
  rw [Nat.add_comm f1 f3]
  exact empF_le h3 f1
theorem opn_dig {s : Nat → Int} {t q o e : Nat} {v : Int} (h : opn s t q o = .inr (v, e)) : IsD (s (nb s t q)) := by
  unfold opn at h
  rcases hn : num s t q 1 9 with f | ⟨u, q1, e1⟩
  · rw [hn] at h; cases h
  · obtain ⟨o1, o2, o3, o4, o5, o6⟩ := num_ok hn
    exact dgN_in (s := s) (q := nb s t q) 0 (by omega)
theorem rrun_1 {s : Nat → Int} {t : Nat} {x y : RS} (h : rstep s t x = .inr (some y)) (G : Nat) : rrun s t (1 + G) x = rrun s t G y := by
  rw [Nat.add_comm, rrun, h]
theorem rstep_o {s : Nat → Int} {t p e : Nat} {v : Int} {z : List (Nat × Nat) × Nat × Nat × Nat × (Nat → Int) × (Nat → Int) × (Nat → Nat)} (hs : Sg s t) (h : opn s t (nb s t p) z.1.length = .inr (v, e)) : rstep s t (p, z) = .inr (some (e, (e, v.toNat) :: z.1, z.2)) := by
  have hd := opn_dig h
  rw [nb_nb hs] at hd
  unfold rstep
  dsimp only [RS.p]
  rw [if_neg (by unfold IsD at hd; omega), if_pos hd]
  unfold rOpn
  dsimp only [RS.st]
  rw [h]
theorem rstep_c {s : Nat → Int} {t p b r : Nat} {st : List (Nat × Nat)} {z : Nat × Nat × Nat × (Nat → Int) × (Nat → Int) × (Nat → Nat)} (h : s (nb s t p) = 125) : rstep s t (p, (b, r) :: st, z) = if 1 < r then .inr (some (b, (b, r - 1) :: st, z)) else .inr (some (nb s t p + 1, st, z)) := by
  unfold rstep
  dsimp only [RS.p]
  rw [if_neg (by omega), if_neg (by unfold IsD; omega), if_pos h]
  rfl
theorem cls_run {s : Nat → Int} {t o b p0 q : Nat} (hq : s q = 125) (hp0 : nb s t p0 = q) (hE : ∀ y : RS, y.st.length = o → y.p = b → ∃ g, ∀ G, rrun s t (g + G) y = rrun s t G (p0, y.2)) : ∀ (r : Nat), 1 ≤ r → ∀ (p : Nat) (st : List (Nat × Nat)) (z : Nat × Nat × Nat × (Nat → Int) × (Nat → Int) × (Nat → Nat)), st.length + 1 = o → nb s t p = q → ∃ g, ∀ G, rrun s t (g + G) (p, (b, r) :: st, z) = rrun s t G (q + 1, st, z)
  | 0, h, _, _, _, _, _ => absurd h (by omega)
  | r + 1, h, p, st, z, ho, hp => by
    have hst := rstep_c (s := s) (t := t) (p := p) (b := b) (r := r + 1) (st := st) (z := z) (by rw [hp]; exact hq)
    by_cases h1 : 1 < r + 1
    · rw [if_pos h1] at hst
      obtain ⟨g1, hg1⟩ := hE (b, (b, r) :: st, z) (by show st.length + 1 = o; exact ho) rfl
      obtain ⟨g2, hg2⟩ := cls_run hq hp0 hE r (by omega) p0 st z ho hp0
      refine ⟨1 + (g1 + g2), fun G => ?_⟩
      rw [Nat.add_assoc, rrun_1 hst, Nat.add_assoc]
      show rrun s t (g1 + (g2 + G)) (b, (b, r) :: st, z) = _
      rw [hg1]
      exact hg2 G
    · rw [if_neg h1, hp] at hst
      exact ⟨1, fun G => rrun_1 hst G⟩
theorem emp_run {s : Nat → Int} {t : Nat} (hs : Sg s t) : ∀ (f o a b : Nat), EmpF s t f o a b → ∀ y : RS, y.st.length = o → y.p = a → ∃ g, ∀ G, rrun s t (g + G) y = rrun s t G (b, y.2)
  | 0, o, a, b, h, y, ho, hp => by
    have h : a = b := h
    subst h
    subst hp
    exact ⟨0, fun G => by rw [Nat.zero_add]⟩
  | f + 1, o, a, b, h, y, ho, hp => by
    rcases h with h | ⟨p0, v, e, p1, h1, h2, h3, h4, h5⟩
    · subst h
      subst hp
      exact ⟨0, fun G => by rw [Nat.zero_add]⟩
    · obtain ⟨g1, hg1⟩ := emp_run hs f o a p0 h1 y ho hp
      have hr := opn_ok hs (t := t) (p := nb s t p0) (o := o) (e := e) (v := v)
      have hst := rstep_o (p := p0) (z := y.2) hs (by rw [← ho] at h2; exact h2)
      obtain ⟨g2, hg2⟩ := emp_run hs f (o + 1) e p1 h3 (e, (e, v.toNat) :: y.st, y.2.2) (by show y.st.length + 1 = o + 1; omega) rfl
      have hv : 1 ≤ v.toNat := by
        have := h2
        unfold opn at this
        rcases hn : num s t (nb s t p0) 1 9 with f2 | ⟨u, q1, e1⟩
        · rw [hn] at this; cases this
        · rw [hn] at this
          obtain ⟨o1, o2, -⟩ := num_ok hn
          change (if s (nb s t e1) = 120 then _ else _) = _ at this
          split at this
          · split at this
            · split at this
              · cases this
              · injection this with this
                injection this with a1 a2
                omega
            · cases this
          · cases this
      obtain ⟨g3, hg3⟩ := cls_run (o := o + 1) h4 rfl (fun y2 z1 z2 => emp_run hs f (o + 1) e p1 h3 y2 z1 z2) v.toNat hv p1 y.st y.2.2 (by omega) rfl
      refine ⟨g1 + (1 + (g2 + g3)), fun G => ?_⟩
      rw [Nat.add_assoc, hg1, Nat.add_assoc, rrun_1 hst, Nat.add_assoc]
      show rrun s t (g2 + (g3 + G)) (e, (e, v.toNat) :: y.st, y.2.2) = _
      rw [hg2]
      show rrun s t (g3 + G) (p1, (e, v.toNat) :: y.st, y.2.2) = _
      rw [hg3, h5]
/-- the open groups without an ITEM so far -/
def EmpOK (s : Nat → Int) (t tk : Nat) : List Ent → Nat → Nat → Prop
  | [], _, _ => True
  | e :: l, p, hi => (∃ v, opn s t e.g l.length = .inr (v, e.b)) ∧ nb s t e.g = e.g ∧ (e.ta = tk → ∃ p0, nb s t p0 = nb s t p ∧ Emp s t (l.length + 1) e.b p0) ∧ e.ta ≤ hi ∧ EmpOK s t tk l e.g e.ta
theorem EmpOK.at {s : Nat → Int} {t tk : Nat} : ∀ {st : List Ent} {p p2 hi : Nat}, EmpOK s t tk st p hi → nb s t p2 = nb s t p → EmpOK s t tk st p2 hi
  | [], _, _, _, _, _ => trivial
  | _ :: _, _, _, _, h, hp => ⟨h.1, h.2.1, fun q => by rw [hp]; exact h.2.2.1 q, h.2.2.2.1, h.2.2.2.2⟩
theorem EmpOK.hi {s : Nat → Int} {t tk : Nat} : ∀ {st : List Ent} {p h1 h2 : Nat}, EmpOK s t tk st p h1 → h1 ≤ h2 → EmpOK s t tk st p h2
  | [], _, _, _, _, _ => trivial
  | _ :: _, _, _, _, h, hp => ⟨h.1, h.2.1, h.2.2.1, Nat.le_trans h.2.2.2.1 hp, h.2.2.2.2⟩
theorem EmpOK.item {s : Nat → Int} {t tk tk2 : Nat} (h12 : tk < tk2) : ∀ {st : List Ent} {p p2 hi : Nat}, EmpOK s t tk st p hi → hi ≤ tk → EmpOK s t tk2 st p2 hi
  | [], _, _, _, _, _ => trivial
  | _ :: _, _, _, _, h, hp => ⟨h.1, h.2.1, fun q => absurd q (by have := h.2.2.2.1; omega), h.2.2.2.1, h.2.2.2.2.item h12 (Nat.le_trans h.2.2.2.1 hp)⟩
theorem EmpOK.pop {s : Nat → Int} {t tk : Nat} {e : Ent} {l : List Ent} {p : Nat} (h : EmpOK s t tk (e :: l) p tk) (hc : s (nb s t p) = 125) : EmpOK s t tk l (nb s t p + 1) tk := by
  obtain ⟨⟨v, a1⟩, a2, a3, a4, a5⟩ := h
  rcases l with _ | ⟨e2, l2⟩
  · trivial
  · obtain ⟨b1, b2, b3, b4, b5⟩ := a5
    refine ⟨b1, b2, fun q => ?_, Nat.le_trans b4 a4, b5⟩
    obtain ⟨p0, c1, c2⟩ := b3 q
    obtain ⟨p1, d1, d2⟩ := a3 (by omega)
    have hcl := Emp.cls c2 (by rw [c1, a2]; exact a1) d2 (by rw [d1]; exact hc)
    rw [d1] at hcl
    exact ⟨nb s t p + 1, rfl, hcl⟩
/-- the lengths that the reference keeps -/
def LaOK (s : Nat → Int) (t m lat : Nat) (la : Nat → Nat) : Prop := ∃ pm dm, tsc s t m = some (pm, lat, dm) ∧ (∀ q, pm ≤ q → la q = 0) ∧ ∀ i, i < m → ∀ p l d, tsc s t i = some (p, l, d) → IsI (s (nb s t p)) → ∃ p2 l2 d2, tsc s t (i + 1) = some (p2, l2, d2) ∧ la (nb s t p) = l2
theorem LaOK.next {s : Nat → Int} {t m lat : Nat} {la : Nat → Nat} {p2 d2 p l d : Nat} (hs : Sg s t) (h : LaOK s t m lat la) (hm : tsc s t m = some (p, l, d)) (hni : ¬ IsI (s (nb s t p))) (h2 : tsc s t (m + 1) = some (p2, l, d2)) : LaOK s t (m + 1) lat la := by
  obtain ⟨pm, dm, a1, a2, a3⟩ := h
  have e := hm.symm.trans a1
  injection e with e
  injection e with e1 e
  injection e with e2 e3
  subst e1 e2 e3
  have hmo := (tsc_mono hs hm 1 _ h2).1
  refine ⟨p2, d2, h2, fun q hq => a2 q (Nat.le_trans hmo hq), fun i hi p3 l3 d3 h3 hii => ?_⟩
  by_cases e : i = m
  · subst e
    rw [hm] at h3
    injection h3 with h3
    injection h3 with z1 z2
    subst z1
    exact absurd hii hni
  · exact a3 i (by omega) p3 l3 d3 h3 hii
/-- what the reference makes of an ITEM's LENGTH -/
theorem la_len {s : Nat → Int} {t m lat : Nat} {la : Nat → Nat} {i p len d m1 a b e : Nat} {v : Int} (hs : Sg s t) (h : LaOK s t m lat la) (him : i ≤ m) (hi : tsc s t i = some (p, len, d)) (hii : IsI (s (nb s t p))) (hit : itm s t (nb s t p) (s (nb s t p)) = .inr (m1, a, b, v, e)) : rLen v (la (nb s t p)) lat = lenOf v len ∧ ((i < m ∧ la (nb s t p) = lenOf v len ∧ ¬ la (nb s t p) = 0) ∨ (i = m ∧ la (nb s t p) = 0 ∧ lat = len)) := by
  obtain ⟨pm, dm, a1, a2, a3⟩ := h
  have hn : tsc s t (i + 1) = some (e, lenOf v len, d) := by rw [tsc_s hi]; exact tnx_i hii hit
  have hb := tsc_bd hs _ _ hn
  have hb1 : 1 ≤ lenOf v len := hb.2.1.1
  rcases Nat.lt_or_ge i m with q | q
  · obtain ⟨p2, l2, d2, c1, c2⟩ := a3 i q p len d hi hii
    rw [hn] at c1
    injection c1 with c1
    injection c1 with z1 c1
    injection c1 with z2 z3
    have hz : ¬ la (nb s t p) = 0 := by omega
    refine ⟨by unfold rLen; rw [if_neg hz]; omega, Or.inl ⟨q, by omega, hz⟩⟩
  · have e1 : i = m := by omega
    subst e1
    have e2 := hi.symm.trans a1
    injection e2 with e2
    injection e2 with z1 e2
    injection e2 with z2 z3
    subst z1 z2 z3
    have hz := a2 (nb s t p) (nb_ge s t p)
    exact ⟨by unfold rLen; rw [if_pos hz], Or.inr ⟨rfl, hz, rfl⟩⟩
def fE (e : Ent) : Nat × Nat := (e.b, e.r)
def rsOf (x : CS) (lat : Nat) (la : Nat → Nat) : RS := (x.p, x.st.map fE, lat, x.tk, x.c, x.ft, x.fb, la)
theorem sim_inl {s : Nat → Int} {t m lat : Nat} {la : Nat → Nat} {x : CS} {e : Flt} (hs : Sg s t) (hx : Ix s t x) (hL : LaOK s t m lat la) (him : x.i ≤ m) (h : cstep s t x = .inl e) : rstep s t (rsOf x lat la) = .inl e := by
  unfold cstep at h
  unfold rstep
  have hq : (rsOf x lat la).p = x.p := rfl
  have hl : (rsOf x lat la).st.length = x.st.length := by show (x.st.map fE).length = _; rw [List.length_map]
  rw [hq]
  split at h
  · rename_i hd
    rw [if_neg (by unfold IsD at hd; omega), if_pos hd]
    unfold cOpn at h
    unfold rOpn
    rw [hl]
    rcases ho : opn s t (nb s t x.p) x.st.length with f | ⟨v, e2⟩
    · rw [ho] at h
      injection h with h
      rw [h]
    · rw [ho] at h; cases h
  · rename_i hd
    split at h
    · rename_i hc
      rw [if_neg (by omega), if_neg hd, if_pos hc]
      unfold cCls at h
      unfold rCls
      rcases hst : x.st with _ | ⟨e2, l⟩
      · rw [hst] at h
        have : (rsOf x lat la).st = [] := by show x.st.map fE = []; rw [hst]; rfl
        rw [this]
        injection h with h
        rw [← h]
      · rw [hst] at h
        change (if _ then _ else _) = _ at h
        split at h <;> cases h
    · rename_i hc
      split at h
      · rename_i hi
        rw [if_neg (by unfold IsI at hi; omega), if_neg hd, if_neg hc, if_pos hi]
        unfold cItm at h
        unfold rItm
        have htk : (rsOf x lat la).tk = x.tk := rfl
        have hcc : (rsOf x lat la).c = x.c := rfl
        have hla : (rsOf x lat la).la = la := rfl
        have hlt : (rsOf x lat la).lat = lat := rfl
        rw [htk, hcc, hla, hlt]
        split at h
        · rename_i hk
          rw [if_pos hk]
          injection h with h
          rw [← h]
        · rename_i hk
          rw [if_neg hk]
          rcases hit : itm s t (nb s t x.p) (s (nb s t x.p)) with f | ⟨m1, a, b, v, e2⟩
          · rw [hit] at h
            injection h with h
            rw [← h]
          · rw [hit] at h
            have hll := (la_len hs hL him hx.1 hi hit).1
            dsimp only at h ⊢
            rw [hll]
            split at h
            · rename_i hf
              rw [if_pos hf]
              injection h with h
              rw [← h]
            · cases h
      · rename_i hi
        split at h
        · cases h
        · rename_i hn
          injection h with h
          by_cases hm1 : s (nb s t x.p) = -1
          · rw [if_pos hm1, if_neg (fun z => hn ⟨hm1, by
              have z : x.st.map fE = [] := z
              exact List.map_eq_nil_iff.mp z⟩), ← h]
          · rw [if_neg hm1, if_neg hd, if_neg hc, if_neg hi, ← h]
theorem sim_end {s : Nat → Int} {t lat : Nat} {la : Nat → Nat} {x : CS} (h : cstep s t x = .inr none) : rstep s t (rsOf x lat la) = .inr none := by
  unfold cstep at h
  split at h
  · unfold cOpn at h
    rcases ho : opn s t (nb s t x.p) x.st.length with f | ⟨v, e2⟩
    · rw [ho] at h; cases h
    · rw [ho] at h; injection h with h; cases h
  · split at h
    · unfold cCls at h
      rcases hst : x.st with _ | ⟨e2, l⟩
      · rw [hst] at h; cases h
      · rw [hst] at h
        change (if _ then _ else _) = _ at h
        split at h <;> (injection h with h; cases h)
    · split at h
      · unfold cItm at h
        split at h
        · cases h
        · rcases hit : itm s t (nb s t x.p) (s (nb s t x.p)) with f | ⟨m1, a, b, v, e2⟩
          · rw [hit] at h; cases h
          · rw [hit] at h
            dsimp only at h
            split at h
            · cases h
            · injection h with h; cases h
      · split at h
        · rename_i hn
          unfold rstep
          have hq : (rsOf x lat la).p = x.p := rfl
          have hst : (rsOf x lat la).st = [] := by show x.st.map fE = []; rw [hn.2]; rfl
          rw [hq, hst, if_pos hn.1, if_pos rfl]
        · cases h
theorem sim {s : Nat → Int} {t : Nat} (hs : Sg s t) : ∀ (f : Nat) (x : CS) (m lat : Nat) (la : Nat → Nat) (r : Flt ⊕ CS), crun s t f x = some r → WF t x → Ix s t x → EmpOK s t x.tk x.st x.p x.tk → LaOK s t m lat la → x.i ≤ m → ∃ f2 r2, rrun s t f2 (rsOf x lat la) = some r2 ∧ (∀ fl, r = .inl fl → r2 = .inl fl) ∧ (∀ z, r = .inr z → WF t z ∧ ∃ lat2 la2, r2 = .inr (rsOf z lat2 la2))
  | 0, x, m, lat, la, r, h, _, _, _, _, _ => by cases h
  | f + 1, x, m, lat, la, r, h, hw, hx, hE, hL, him => by
    rw [crun] at h
    rcases hc : cstep s t x with e | o
    · rw [hc] at h
      have h := Option.some.inj h
      refine ⟨1, .inl e, ?_, fun fl hfl => ?_, fun z hz => by rw [← h] at hz; cases hz⟩
      · rw [rrun, sim_inl hs hx hL him hc]
      · rw [← h] at hfl
        injection hfl with hfl
        rw [hfl]
    · rcases o with _ | y
      · rw [hc] at h
        have h := Option.some.inj h
        refine ⟨1, .inr (rsOf x lat la), ?_, fun fl hfl => (by rw [← h] at hfl; cases hfl), fun z hz => ?_⟩
        · rw [rrun, sim_end hc]
        · rw [← h] at hz
          injection hz with hz
          subst hz
          exact ⟨hw, lat, la, rfl⟩
      · rw [hc] at h
        have h : crun s t f y = some r := h
        have hw2 := wf_step hs hw hc
        have hx2 := ix_step hx hc
        obtain ⟨x1, x2⟩ := id hx
        rcases cstep_cases hc with ⟨hd, v, e, ho, rfl⟩ | ⟨hcl, e, l, hst, hr, rfl⟩ | ⟨hcl, e, l, hst, hr, rfl⟩ | ⟨hi, htk, m1, a, b, v, e, hit, hf, rfl⟩
        · have hn := hx2.1
          have hLx : ∃ m2, x.i + 1 ≤ m2 ∧ LaOK s t m2 lat la := by
            rcases Nat.lt_or_ge x.i m with q | q
            · exact ⟨m, q, hL⟩
            · have em : x.i = m := by omega
              subst em
              exact ⟨x.i + 1, Nat.le_refl _, hL.next hs x1 (by unfold IsD at hd; unfold IsI; omega) hn⟩
          obtain ⟨m2, hm2, hL2⟩ := hLx
          have hE2 : EmpOK s t x.tk ((nb s t x.p, e, v.toNat, 0, x.len, x.tk, x.i + 1) :: x.st) e x.tk := ⟨⟨v, ho⟩, nb_nb hs _, fun _ => ⟨e, rfl, 0, rfl⟩, Nat.le_refl _, hE.at (nb_nb hs _)⟩
          obtain ⟨f2, r2, k1, k2, k3⟩ := sim hs f _ m2 lat la r h hw2 hx2 hE2 hL2 hm2
          refine ⟨1 + f2, r2, ?_, k2, k3⟩
          rw [← k1]
          refine rrun_1 ?_ f2
          exact rstep_o (p := x.p) (z := (x.st.map fE, lat, x.tk, x.c, x.ft, x.fb, la)) hs (by rw [List.length_map]; exact ho)
        · rw [hst] at hE
          have hje : e.j ≤ m := by rw [hst] at x2; exact Nat.le_trans x2.2.1 him
          have hE2 : EmpOK s t x.tk ((e.g, e.b, e.r - 1, e.u + 1, e.la, e.ta, e.j) :: l) e.b x.tk := ⟨hE.1, hE.2.1, fun q => absurd q (by show ¬ e.ta = x.tk; omega), hE.2.2.2.1, hE.2.2.2.2⟩
          obtain ⟨f2, r2, k1, k2, k3⟩ := sim hs f _ m lat la r h hw2 hx2 hE2 hL hje
          refine ⟨1 + f2, r2, ?_, k2, k3⟩
          rw [← k1]
          refine rrun_1 ?_ f2
          have := rstep_c (s := s) (t := t) (p := x.p) (b := e.b) (r := e.r) (st := l.map fE) (z := (lat, x.tk, x.c, x.ft, x.fb, la)) hcl
          rw [if_pos hr.1] at this
          unfold rsOf
          rw [hst]
          exact this
        · rw [hst] at hE x1 x2
          have hn := hx2.1
          have hwe := hw.2.2.2.2.2 e (by rw [hst]; exact List.mem_cons_self ..)
          have hLx : ∃ m2, x.i + 1 ≤ m2 ∧ LaOK s t m2 lat la := by
            rcases Nat.lt_or_ge x.i m with q | q
            · exact ⟨m, q, hL⟩
            · have em : x.i = m := by omega
              subst em
              exact ⟨x.i + 1, Nat.le_refl _, hL.next hs x1 (by unfold IsI; omega) hn⟩
          obtain ⟨m2, hm2, hL2⟩ := hLx
          have hE2 := hE.pop hcl
          obtain ⟨f2, r2, k1, k2, k3⟩ := sim hs f _ m2 lat la r h hw2 hx2 hE2 hL2 hm2
          have hgo : ∃ g, ∀ G, rrun s t (g + G) (x.p, fE e :: l.map fE, lat, x.tk, x.c, x.ft, x.fb, la) = rrun s t G (nb s t x.p + 1, l.map fE, lat, x.tk, x.c, x.ft, x.fb, la) := by
            by_cases hr1 : e.r = 1
            · have := rstep_c (s := s) (t := t) (p := x.p) (b := e.b) (r := e.r) (st := l.map fE) (z := (lat, x.tk, x.c, x.ft, x.fb, la)) hcl
              rw [if_neg (by omega)] at this
              exact ⟨1, fun G => rrun_1 this G⟩
            · have hta : e.ta = x.tk := by
                have : e.ta ≤ x.tk := hE.2.2.2.1
                omega
              obtain ⟨p0, c1, ⟨ff, c2⟩⟩ := hE.2.2.1 hta
              exact cls_run (o := l.length + 1) hcl c1 (fun y z1 z2 => emp_run hs ff (l.length + 1) e.b p0 c2 y z1 z2) e.r hwe.2.1 x.p (l.map fE) (lat, x.tk, x.c, x.ft, x.fb, la) (by rw [List.length_map]) rfl
          obtain ⟨g, hg⟩ := hgo
          refine ⟨g + f2, r2, ?_, k2, k3⟩
          rw [← k1]
          unfold rsOf
          rw [hst]
          exact hg f2
        · have hll := la_len hs hL him x1 hi hit
          have hlt := hs.lt (p := nb s t x.p) (by unfold IsI at hi; omega)
          have k := itm_ok hs hlt hit
          have hlb := lenOf_bd ⟨k.2.2.2.2.1, k.2.2.2.2.2.1⟩ hw.2.2.1
          have hE2 : EmpOK s t (x.tk + lenOf v x.len) x.st e (x.tk + lenOf v x.len) := (hE.item (tk2 := x.tk + lenOf v x.len) (p2 := e) (by omega) (Nat.le_refl _)).hi (by omega)
          have hst : rstep s t (rsOf x lat la) = .inr (some (e, x.st.map fE, (if la (nb s t x.p) = 0 then lenOf v x.len else lat), x.tk + lenOf v x.len, x.c + addOf (s (nb s t x.p)) m1 (lenOf v x.len), exF x.ft x.c (ftI (s (nb s t x.p)) x.tk), exF x.fb x.c (fbI (s (nb s t x.p)) m1 a b), fun j => if j = nb s t x.p then lenOf v x.len else la j)) := by
            unfold rstep
            have hq : (rsOf x lat la).p = x.p := rfl
            rw [hq, if_neg (by unfold IsI at hi; omega), if_neg (by unfold IsI at hi; unfold IsD; omega), if_neg (by unfold IsI at hi; omega), if_pos hi]
            unfold rItm
            have h1 : (rsOf x lat la).tk = x.tk := rfl
            have h2 : (rsOf x lat la).c = x.c := rfl
            have h3 : (rsOf x lat la).la = la := rfl
            have h4 : (rsOf x lat la).lat = lat := rfl
            rw [h1, h2, h3, h4, if_neg htk, hit]
            dsimp only
            rw [hll.1, if_neg hf]
            rfl
          have hLx : ∃ m2, x.i + 1 ≤ m2 ∧ LaOK s t m2 (if la (nb s t x.p) = 0 then lenOf v x.len else lat) (fun j => if j = nb s t x.p then lenOf v x.len else la j) := by
            rcases hll.2 with ⟨q1, q2, q3⟩ | ⟨q1, q2, q3⟩
            · refine ⟨m, q1, ?_⟩
              rw [if_neg q3]
              have : (fun j => if j = nb s t x.p then lenOf v x.len else la j) = la := by
                funext j
                by_cases z : j = nb s t x.p
                · rw [if_pos z, z]; exact q2.symm
                · rw [if_neg z]
              rw [this]
              exact hL
            · rw [if_pos q2]
              have hn := hx2.1
              subst q1
              obtain ⟨pm, dm, a1, a2, a3⟩ := hL
              have ez := x1.symm.trans a1
              injection ez with ez
              injection ez with ez1 ez
              subst ez1
              refine ⟨x.i + 1, Nat.le_refl _, e, x.st.length, hn, fun q hq => ?_, fun i hi2 p3 l3 d3 h3 hii => ?_⟩
              · show (if q = nb s t x.p then _ else la q) = 0
                rw [if_neg (by omega)]
                exact a2 q (by have := nb_ge s t x.p; omega)
              · by_cases z : i = x.i
                · subst z
                  rw [x1] at h3
                  injection h3 with h3
                  injection h3 with z1 z2
                  subst z1
                  exact ⟨e, _, _, hn, if_pos rfl⟩
                · obtain ⟨p2, l2, d2, b1, b2⟩ := a3 i (by omega) p3 l3 d3 h3 hii
                  refine ⟨p2, l2, d2, b1, ?_⟩
                  show (if nb s t p3 = nb s t x.p then _ else la (nb s t p3)) = l2
                  have hmo := (tsc_mono hs h3 (x.i - i) _ (by rw [show i + (x.i - i) = x.i by omega]; exact x1)).2 (by omega)
                  have hmo : nb s t p3 < x.p := hmo
                  have := nb_ge s t x.p
                  rw [if_neg (by omega)]
                  exact b2
          obtain ⟨m2, hm2, hL2⟩ := hLx
          obtain ⟨f2, r2, k1, k2, k3⟩ := sim hs f _ m2 _ _ r h hw2 hx2 hE2 hL2 hm2
          refine ⟨1 + f2, r2, ?_, k2, k3⟩
          rw [← k1]
          exact rrun_1 hst f2
theorem laOK0 (s : Nat → Int) (t : Nat) : LaOK s t 0 4 (fun _ => 0) := ⟨0, 0, rfl, fun _ _ => rfl, fun i h => absurd h (Nat.not_lt_zero i)⟩
/-- both readings end, and alike -/
theorem reads {s : Nat → Int} {t : Nat} (hs : Sg s t) : ∃ f r f2 r2, f ≤ 1000000 ∧ crun s t f cs0 = some r ∧ rrun s t f2 rs0 = some r2 ∧ (∀ fl, r = .inl fl → r2 = .inl fl) ∧ (∀ z, r = .inr z → WF t z ∧ ∃ lat2 la2, r2 = .inr (rsOf z lat2 la2)) := by
  obtain ⟨f, r, h1, h2⟩ := crun_ends hs
  obtain ⟨f2, r2, k1, k2, k3⟩ := sim hs f cs0 0 4 (fun _ => 0) r h2 (wf0 t) (ix0 s t) trivial (laOK0 s t) (Nat.le_refl 0)
  exact ⟨f, r, f2, r2, h1, h2, k1, k2, k3⟩
