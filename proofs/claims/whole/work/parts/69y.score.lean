/-! ===== the reference's reading, as a machine of its own ===== -/
abbrev RS : Type := Nat × List (Nat × Nat) × Nat × Nat × Nat × (Nat → Int) × (Nat → Int) × (Nat → Nat)
abbrev RS.p (x : RS) : Nat := x.1
abbrev RS.st (x : RS) : List (Nat × Nat) := x.2.1
abbrev RS.lat (x : RS) : Nat := x.2.2.1
abbrev RS.tk (x : RS) : Nat := x.2.2.2.1
abbrev RS.c (x : RS) : Nat := x.2.2.2.2.1
abbrev RS.ft (x : RS) : Nat → Int := x.2.2.2.2.2.1
abbrev RS.fb (x : RS) : Nat → Int := x.2.2.2.2.2.2.1
abbrev RS.la (x : RS) : Nat → Nat := x.2.2.2.2.2.2.2
def rs0 : RS := (0, [], 4, 0, 0, fun _ => 0, fun _ => 0, fun _ => 0)
def rOpn (s : Nat → Int) (t q : Nat) (x : RS) : Flt ⊕ Option RS := match opn s t q x.st.length with
  | .inl f => .inl f
  | .inr (v, e) => .inr (some ((e, (e, v.toNat) :: x.st, x.lat, x.tk, x.c, x.ft, x.fb, x.la) : RS))
def rCls (q : Nat) (x : RS) : Flt ⊕ Option RS := match x.st with
  | [] => .inl (1, q)
  | e :: l => if 1 < e.2 then .inr (some ((e.1, (e.1, e.2 - 1) :: l, x.lat, x.tk, x.c, x.ft, x.fb, x.la) : RS))
    else .inr (some ((q + 1, l, x.lat, x.tk, x.c, x.ft, x.fb, x.la) : RS))
def rItm (s : Nat → Int) (t q : Nat) (y : Int) (x : RS) : Flt ⊕ Option RS := if 1999 < x.tk then .inl (4, q) else match itm s t q y with
  | .inl f => .inl f
  | .inr (m, a, b, v, e) => if 100 < x.c + addOf y m (rLen v (x.la q) x.lat) then .inl (4, q) else
    .inr (some ((e, x.st, (if x.la q = 0 then rLen v (x.la q) x.lat else x.lat), x.tk + rLen v (x.la q) x.lat, x.c + addOf y m (rLen v (x.la q) x.lat), exF x.ft x.c (ftI y x.tk), exF x.fb x.c (fbI y m a b), fun i => if i = q then rLen v (x.la q) x.lat else x.la i) : RS))
def rstep (s : Nat → Int) (t : Nat) (x : RS) : Flt ⊕ Option RS :=
  if s (nb s t x.p) = -1 then (if x.st = [] then .inr none else .inl (1, nb s t x.p))
  else if IsD (s (nb s t x.p)) then rOpn s t (nb s t x.p) x
  else if s (nb s t x.p) = 125 then rCls (nb s t x.p) x
  else if IsI (s (nb s t x.p)) then rItm s t (nb s t x.p) (s (nb s t x.p)) x
  else .inl (1, nb s t x.p)
def rrun (s : Nat → Int) (t : Nat) : Nat → RS → Option (Flt ⊕ RS)
  | 0, _ => none
  | f + 1, x => match rstep s t x with
    | .inl e => some (.inl e)
    | .inr none => some (.inr x)
    | .inr (some y) => rrun s t f y
/-- well formed -/
def WFR (t : Nat) (x : RS) : Prop := x.p ≤ t ∧ x.st.length ≤ 4 ∧ (1 ≤ x.lat ∧ x.lat ≤ 64) ∧ x.tk ≤ 2063 ∧ x.c ≤ 100 ∧ (∀ e, e ∈ x.st → e.1 ≤ t ∧ 1 ≤ e.2 ∧ e.2 ≤ 9) ∧ (∀ i, x.la i ≤ 64) ∧ ∀ i, i < x.c → (0 ≤ x.ft i ∧ x.ft i < x.tk) ∧ 0 ≤ x.fb i ∧ x.fb i < 24
theorem wfr0 (t : Nat) : WFR t rs0 := ⟨Nat.zero_le _, by decide, by decide, by decide, by decide, fun e h => (by cases h), fun i => Nat.zero_le _, fun i h => absurd h (Nat.not_lt_zero i)⟩
theorem rLen_bd {v : Int} {la lat : Nat} (h1 : 0 ≤ v ∧ v ≤ 64) (h2 : 1 ≤ lat ∧ lat ≤ 64) (h3 : la ≤ 64) : 1 ≤ rLen v la lat ∧ rLen v la lat ≤ 64 := by
  unfold rLen
  split
  · exact lenOf_bd h1 h2
  · omega
theorem new_bd {s : Nat → Int} {t q : Nat} {y v : Int} {m a b e tk l : Nat} (hs : Sg s t) (hq : q < t) (h : itm s t q y = .inr (m, a, b, v, e)) (hl : 1 ≤ l) {i : Nat} (hi : i < addOf y m l) : (0 ≤ ftI y tk i ∧ ftI y tk i < ((tk + l : Nat) : Int)) ∧ 0 ≤ fbI y m a b i ∧ fbI y m a b i < 24 := by
  have k := itm_ok hs hq h
  unfold addOf at hi
  unfold ftI fbI
  by_cases e1 : y = 116
  · rw [if_pos e1] at hi ⊢
    rw [if_pos e1]
    refine ⟨by omega, ?_⟩
    split <;> omega
  · rw [if_neg e1] at hi ⊢
    rw [if_neg e1]
    obtain ⟨x, x1, x2, x3, x4⟩ := rnk_get hi
    rw [x4]
    omega
theorem wfr_step {s : Nat → Int} {t : Nat} {x y : RS} (hs : Sg s t) (hw : WFR t x) (h : rstep s t x = .inr (some y)) : WFR t y := by
  obtain ⟨w1, w2, w3, w4, w5, w6, w7, w8⟩ := hw
  have h1 := nb_ge s t x.p
  have h2 := nb_le (s := s) w1
  unfold rstep at h
  split at h
  · split at h
    · injection h with h; cases h
    · cases h
  · rename_i hm1
    split at h
    · unfold rOpn at h
      rcases ho : opn s t (nb s t x.p) x.st.length with f | ⟨v, e⟩
      · rw [ho] at h; cases h
      · rw [ho] at h
        obtain ⟨k1, k2, k3, k4, k5, k6⟩ := opn_ok hs h2 ho
        injection h with h
        injection h with h
        subst h
        refine ⟨k5, by show x.st.length + 1 ≤ 4; omega, w3, w4, w5, fun e2 he => ?_, w7, w8⟩
        rcases List.mem_cons.mp he with q | q
        · subst q
          exact ⟨k5, by show 1 ≤ v.toNat; omega, by show v.toNat ≤ 9; omega⟩
        · exact w6 e2 q
    · split at h
      · rename_i hx
        have hlt := hs.lt (p := nb s t x.p) (by omega)
        unfold rCls at h
        rcases hst : x.st with _ | ⟨e, l⟩
        · rw [hst] at h; cases h
        · rw [hst] at h
          rw [hst] at w2 w6
          have we := w6 e (List.mem_cons_self ..)
          change (if _ then _ else _) = _ at h
          split at h
          · rename_i hc
            injection h with h
            injection h with h
            subst h
            refine ⟨we.1, w2, w3, w4, w5, fun e2 he => ?_, w7, w8⟩
            rcases List.mem_cons.mp he with q | q
            · subst q
              exact ⟨we.1, by show 1 ≤ e.2 - 1; omega, by show e.2 - 1 ≤ 9; omega⟩
            · exact w6 e2 (List.mem_cons_of_mem _ q)
          · injection h with h
            injection h with h
            subst h
            exact ⟨by show nb s t x.p + 1 ≤ t; omega, by show l.length ≤ 4; have : l.length + 1 ≤ 4 := w2; omega, w3, w4, w5, fun e2 he => w6 e2 (List.mem_cons_of_mem _ he), w7, w8⟩
      · split at h
        · rename_i hx
          have hlt := hs.lt (p := nb s t x.p) (by unfold IsI at hx; omega)
          unfold rItm at h
          split at h
          · cases h
          · rcases hi : itm s t (nb s t x.p) (s (nb s t x.p)) with f | ⟨m, a, b, v, e⟩
            · rw [hi] at h; cases h
            · rw [hi] at h
              have k := itm_ok hs hlt hi
              have hl := rLen_bd ⟨k.2.2.2.2.1, k.2.2.2.2.2.1⟩ w3 (w7 (nb s t x.p))
              change (if _ then _ else _) = _ at h
              split at h
              · cases h
              · injection h with h
                injection h with h
                subst h
                refine ⟨k.2.2.2.2.2.2.2, w2, ?_, by show x.tk + _ ≤ 2063; omega, by show x.c + _ ≤ 100; omega, w6, fun i => ?_, fun i hi2 => ?_⟩
                · show 1 ≤ (if x.la (nb s t x.p) = 0 then _ else x.lat) ∧ (if x.la (nb s t x.p) = 0 then _ else x.lat) ≤ 64
                  split
                  · exact hl
                  · exact w3
                · show (if i = nb s t x.p then _ else x.la i) ≤ 64
                  split
                  · exact hl.2
                  · exact w7 i
                · show (0 ≤ exF x.ft x.c (ftI _ x.tk) i ∧ exF x.ft x.c (ftI _ x.tk) i < ((x.tk + _ : Nat) : Int)) ∧ 0 ≤ exF x.fb x.c (fbI _ m a b) i ∧ exF x.fb x.c (fbI _ m a b) i < 24
                  have hi3 : i < x.c + addOf (s (nb s t x.p)) m (rLen v (x.la (nb s t x.p)) x.lat) := hi2
                  unfold exF
                  by_cases z : i < x.c
                  · rw [if_pos z, if_pos z]
                    have := w8 i z
                    omega
                  · rw [if_neg z, if_neg z]
                    exact new_bd hs hlt hi hl.1 (i := i - x.c) (by omega)
        · cases h
/-- the open groups -/
def StkR (J : wJn) : List (Nat × Nat) → Prop
  | [] => True
  | e :: l => J 42 l.length = (e.1 : Nat) ∧ J 43 l.length = (e.2 : Nat) ∧ StkR J l
theorem StkR.cong {J J2 : wJn} : ∀ {l : List (Nat × Nat)}, StkR J l → (∀ i, i < l.length → J2 42 i = J 42 i ∧ J2 43 i = J 43 i) → StkR J2 l
  | [], _, _ => trivial
  | e :: l, h, h2 => by
    have h3 := h2 l.length (by simp)
    exact ⟨by rw [h3.1]; exact h.1, by rw [h3.2]; exact h.2.1, h.2.2.cong (fun i hi => h2 i (by simp; omega))⟩
def RepA (J0 J : wJn) (t : Nat) (x : RS) : Prop := (∀ a, a ≠ 34 → a ≠ 39 → a ≠ 40 → a ≠ 41 → a ≠ 42 → a ≠ 43 → a ≠ 44 → J a = J0 a) ∧ J 34 4 = 0 ∧ J 34 6 = (t : Nat) ∧ J 34 16 = (x.st.length : Nat) ∧ J 34 15 = (x.lat : Nat) ∧ J 34 11 = (x.tk : Nat) ∧ J 34 10 = (x.c : Nat) ∧ J 34 7 = 0 ∧ J 34 8 = -1 ∧ (∀ i, i < x.c → J 39 i = x.ft i ∧ J 40 i = x.fb i) ∧ (∀ i, i < 1001 → J 41 i = (x.la i : Nat)) ∧ StkR J x.st
/-- what score leaves -/
def ScP (J J2 : wJn) (r : Flt ⊕ RS) : Prop := (∀ a, a ≠ 34 → a ≠ 35 → a ≠ 39 → a ≠ 40 → a ≠ 41 → a ≠ 42 → a ≠ 43 → a ≠ 44 → J2 a = J a) ∧ J2 34 4 = 0 ∧ (∀ f, r = .inl f → J2 35 231 = f.1 ∧ J2 35 232 = f.2 ∧ ∀ y, y ≠ 231 → y ≠ 232 → J2 35 y = J 35 y) ∧ (∀ x, r = .inr x → J2 35 231 = 0 ∧ J2 35 232 = -1 ∧ J2 35 0 = (x.c : Nat) ∧ J2 35 1 = (x.tk : Nat) ∧ (∀ i, i < 100 → J2 35 (2 + i) = (if i < x.c then x.ft i else 0) ∧ J2 35 (102 + i) = (if i < x.c then x.fb i else 0)) ∧ ∀ y, 202 ≤ y → y ≠ 231 → y ≠ 232 → J2 35 y = J 35 y)
def rscR (r : Flt ⊕ RS) : Int := match r with
  | .inl _ => -1
  | .inr x => (x.c : Nat)
section SCORER
variable {n : Nat} {K : wKd} {J : wJn} {L : wLn} {R : wRf}
theorem s_X11_score (hy : Ly K R) {s : Nat → Int} {t f : Nat} {r : Flt ⊕ RS} (hta : J 34 4 = t) (hs : Sg s t) (htp : ∀ p, p < t → J 38 p = s p) (hr : rrun s t f rs0 = some r) : S_X11_score [.ref 34] n K (zw J) L R (fun r2 n2 K2 I2 L2 R2 => ∃ J2 : wJn, Det (some (.int (iI (rscR r)))) n K (zw J2) L R r2 n2 K2 I2 L2 R2 ∧ ScP J J2 r) := by
  have h3 := hs.1
  refine Sp_intro [some (.ref 34), none] rfl rfl (Nat.le_of_ble_eq_true rfl) rfl ?_
  intro Γ C
  replace C : C_X11_score Γ := C
  generalize hpost : (fun (r2 : Option Value) (n2 : Nat) (K2 : wKd) (I2 : wIn) (L2 : wLn) (R2 : wRf) => ∃ J2 : wJn, Det (some (.int (iI (rscR r)))) n K (zw J2) L R r2 n2 K2 I2 L2 R2 ∧ ScP J J2 r) = post
  -- a FAULT
  have b147 : ∀ (J3 : wJn) (fl : Flt), r = .inl fl → J3 34 7 = fl.1 → J3 34 8 = fl.2 → (1 ≤ fl.1 ∧ fl.1 ≤ 4) → (∀ a, a ≠ 34 → a ≠ 39 → a ≠ 40 → a ≠ 41 → a ≠ 42 → a ≠ 43 → a ≠ 44 → J3 a = J a) → J3 34 4 = 0 → wp Γ 0 0 (QQ Γ post) 147 [some (.ref 34), none] [] n K (zw J3) L R := by
    intro J3 fl hrf y1 y2 y3 y4 h4
    refine w_aload_n (pc2 := 148) C dX11_score_147 rfl rfl ?_
    refine w_getR (pc2 := 151) C dX11_score_148 fl_X11_7 (by first | exact hy.k _ | assumption) (by first | exact hy.r _ _ | assumption) rfl ?_
    refine w_sipush (pc2 := 154) (v := iI 231) C dX11_score_151 (by decide) rfl ?_
    refine w_aload_n (pc2 := 155) C dX11_score_154 rfl rfl ?_
    refine z_getI (pc2 := 158) C dX11_score_155 fl_X11_56 (by first | exact hy.k _ | assumption) rfl ?_
    -- at 158: .iastore
    refine z_iast (pc2 := 159) (j := 231) C dX11_score_158 (by first | exact hy.k _ | assumption) (by omega) (by omega) (by decide) rfl ?_
    refine w_aload_n (pc2 := 160) C dX11_score_159 rfl rfl ?_
    refine w_getR (pc2 := 163) C dX11_score_160 fl_X11_7 (by first | exact hy.k _ | assumption) (by first | exact hy.r _ _ | assumption) rfl ?_
    refine w_sipush (pc2 := 166) (v := iI 232) C dX11_score_163 (by decide) rfl ?_
    refine w_aload_n (pc2 := 167) C dX11_score_166 rfl rfl ?_
    refine z_getI (pc2 := 170) C dX11_score_167 fl_X11_59 (by first | exact hy.k _ | assumption) rfl ?_
    -- at 170: .iastore
    refine z_iast (pc2 := 171) (j := 232) C dX11_score_170 (by first | exact hy.k _ | assumption) (by omega) (by omega) (by decide) rfl ?_
    have e7 : up2 (up2 J3 35 231 (J3 34 7)) 35 232 (up2 J3 35 231 (J3 34 7) 34 8) 34 7 = fl.1 := by rw [up2_row (by decide), up2_row (by decide)]; exact y1
    refine w_aload_n (pc2 := 172) C dX11_score_171 rfl rfl ?_
    refine z_getI (pc2 := 175) C dX11_score_172 fl_X11_56 (by first | exact hy.k _ | assumption) rfl ?_
    -- at 175: .ifCond .eq 5
    refine z_if_eq (pc2 := 178) (tgt := 180) C dX11_score_175 (by decide) rfl (by omega) (fun g1 => ?_) (fun g1 => ?_)
    · exact absurd g1 (by omega)
    · skip
      refine w_iconst (pc2 := 179) (v := iI (-1)) C dX11_score_178 (by decide) rfl ?_
      -- at 179: .ireturn
      exact w_iret C dX11_score_179 (by decide) (by decide) (by
        rw [← hpost]
        refine ⟨_, DetI (by rw [hrf]; rfl) rfl, fun a a1 a2 a3 a4 a5 a6 a7 a8 => by rw [up2_row a2, up2_row a2]; exact y4 a a1 a3 a4 a5 a6 a7 a8, by rw [up2_row (by decide), up2_row (by decide)]; exact h4, fun f2 hf2 => ?_, fun x hx => by rw [hrf] at hx; cases hx⟩
        rw [hrf] at hf2
        injection hf2 with hf2
        subst hf2
        refine ⟨by rw [up2_n _ _ _ _ (by omega), up2_s]; exact y1, by rw [up2_s, up2_row (by decide)]; exact y2, fun y z1 z2 => by rw [up2_n _ _ _ _ (by omega), up2_n _ _ _ _ (by omega), y4 35 (by decide) (by decide) (by decide) (by decide) (by decide) (by decide) (by decide)]⟩)
  have b70 : ∀ (J4 J3 : wJn) (fl : Flt), r = .inl fl → (∀ a, a ≠ 34 → a ≠ 39 → a ≠ 40 → a ≠ 41 → a ≠ 42 → a ≠ 43 → a ≠ 44 → J4 a = J a) → J4 34 4 = 0 → FltR J4 J3 fl → wp Γ 0 0 (QQ Γ post) 70 [some (.ref 34), none] [] n K (zw J3) L R := by
    intro J4 J3 fl hrf hA h4 hF
    obtain ⟨y1, y2, y3, y4, y5⟩ := hF
    refine w_aload_n (pc2 := 71) C dX11_score_70 rfl rfl ?_
    refine z_getI (pc2 := 74) C dX11_score_71 fl_X11_56 (by first | exact hy.k _ | assumption) rfl ?_
    -- at 74: .ifCond .ne 50
    refine z_if_ne (pc2 := 77) (tgt := 124) C dX11_score_74 (by decide) rfl (by omega) (fun g1 => ?_) (fun g1 => ?_)
    · skip
      refine w_aload_n (pc2 := 125) C dX11_score_124 rfl rfl ?_
      refine z_getI (pc2 := 128) C dX11_score_125 fl_X11_56 (by first | exact hy.k _ | assumption) rfl ?_
      -- at 128: .ifCond .ne 19
      refine z_if_ne (pc2 := 131) (tgt := 147) C dX11_score_128 (by decide) rfl (by omega) (fun g2 => ?_) (fun g2 => ?_)
      · exact b147 J3 fl hrf y1 y2 y3 (fun a a1 a2 a3 a4 a5 a6 a7 => by rw [y4 a a1 a2 a3 a4 a5 a6 a7]; exact hA a a1 a2 a3 a4 a5 a6 a7) (by rw [y5]; exact h4)
      · exact absurd g2 (by omega)
    · exact absurd g1 (by omega)
  -- the text's end
  have e124 : ∀ (J3 : wJn) (x : RS), RepA J J3 t x → WFR t x → (x.st = [] → r = .inr x) → (¬ x.st = [] → r = .inl (1, t)) → wp Γ 0 0 (QQ Γ post) 124 [some (.ref 34), none] [] n K (zw J3) L R := by
    intro J3 x hR hW hok hno
    obtain ⟨r0, r4, r6, r16, r15, r11, r10, r7, r8, rar, rla, rst⟩ := hR
    obtain ⟨w1, w2, w3, w4, w5, w6, w7, w8⟩ := hW
    by_cases he : x.st = []
    · have hrr := hok he
      rw [he] at r16
      have r16b : J3 34 16 = 0 := r16
      have r35 : J3 35 = J 35 := r0 35 (by decide) (by decide) (by decide) (by decide) (by decide) (by decide) (by decide)
      have key : ∀ (d i : Nat) (J4 : wJn), i + d = 100 → (∀ a, a ≠ 35 → J4 a = J3 a) → J4 35 231 = 0 → J4 35 232 = -1 → J4 35 0 = (x.c : Nat) → J4 35 1 = (x.tk : Nat) → (∀ j, j < i → J4 35 (2 + j) = (if j < x.c then x.ft j else 0) ∧ J4 35 (102 + j) = (if j < x.c then x.fb j else 0)) → (∀ y, 202 ≤ y → y ≠ 231 → y ≠ 232 → J4 35 y = J 35 y) → wp Γ 0 0 (QQ Γ post) 202 [some (.ref 34), some (.int (iI i))] [] n K (zw J4) L R := by
        intro d
        induction d with
        | zero =>
          intro i J4 hi c0 c1 c2 c3 c4 c5 c6
          have e10 : J4 34 10 = (x.c : Nat) := by rw [c0 34 (by decide)]; exact r10
          refine w_iload_n (pc2 := 203) C dX11_score_202 rfl rfl ?_
          refine w_bipush (pc2 := 205) (v := iI 100) C dX11_score_203 (by decide) rfl ?_
          -- at 205: .if_icmp .ge 62
          refine z_icmp_ge (pc2 := 208) (tgt := 267) C dX11_score_205 (by decide) rfl (by omega) (by omega) (fun g1 => ?_) (fun g1 => ?_)
          · skip
            refine w_aload_n (pc2 := 268) C dX11_score_267 rfl rfl ?_
            refine z_getI (pc2 := 271) C dX11_score_268 fl_X11_90 (by first | exact hy.k _ | assumption) rfl ?_
            -- at 271: .ireturn
            rw [e10]
            exact w_iret C dX11_score_271 (by decide) (by decide) (by
              rw [← hpost]
              refine ⟨J4, DetI (by rw [hrr]; rfl) rfl, fun a a1 a2 a3 a4 a5 a6 a7 a8 => by rw [c0 a a2]; exact r0 a a1 a3 a4 a5 a6 a7 a8, by rw [c0 34 (by decide)]; exact r4, fun f2 hf2 => (by rw [hrr] at hf2; cases hf2), fun x2 hx2 => ?_⟩
              rw [hrr] at hx2
              injection hx2 with hx2
              subst hx2
              exact ⟨c1, c2, c3, c4, fun j hj => c5 j (by omega), c6⟩)
          · exact absurd hi (by omega)
        | succ d ih =>
          intro i J4 hi c0 c1 c2 c3 c4 c5 c6
          have e10 : ∀ (k : Nat) (z : Int), up2 J4 35 k z 34 10 = (x.c : Nat) := fun k z => by rw [up2_row (by decide), c0 34 (by decide)]; exact r10
          have f10 : J4 34 10 = (x.c : Nat) := by rw [c0 34 (by decide)]; exact r10
          have fin : ∀ z1 z2 : Int, z1 = (if i < x.c then x.ft i else 0) → z2 = (if i < x.c then x.fb i else 0) → wp Γ 0 0 (QQ Γ post) 260 [some (.ref 34), some (.int (iI i))] [.int (iI z2), .int (iI (102 + (i : Int))), .ref 35] n K (zw (up2 J4 35 (2 + i) z1)) L R := by
            intro z1 z2 hz1 hz2
            refine z_iast (pc2 := 261) (j := 102 + i) C dX11_score_260 (by first | exact hy.k _ | assumption) (by omega) (by omega) (by decide) rfl ?_
            refine w_iinc (pc2 := 264) C dX11_score_261 rfl (iI_add _ _) rfl (by decide) rfl rfl ?_
            try dsimp only [List.set]
            refine w_goto (tgt := 202) C dX11_score_264 (by decide) ?_
            -- at 202: .iload_n 1
            refine ih (i + 1) _ (by omega) (fun a ha => by rw [up2_row ha, up2_row ha]; exact c0 a ha) (by rw [up2_n _ _ _ _ (by omega), up2_n _ _ _ _ (by omega)]; exact c1) (by rw [up2_n _ _ _ _ (by omega), up2_n _ _ _ _ (by omega)]; exact c2) (by rw [up2_n _ _ _ _ (by omega), up2_n _ _ _ _ (by omega)]; exact c3) (by rw [up2_n _ _ _ _ (by omega), up2_n _ _ _ _ (by omega)]; exact c4) (fun j hj => ?_) (fun y y1 y2 y3 => by rw [up2_n _ _ _ _ (by omega), up2_n _ _ _ _ (by omega)]; exact c6 y y1 y2 y3)
            by_cases e : j = i
            · subst e
              exact ⟨by rw [up2_n _ _ _ _ (by omega), up2_s]; exact hz1, by rw [up2_s]; exact hz2⟩
            · have := c5 j (by omega)
              exact ⟨by rw [up2_n _ _ _ _ (by omega), up2_n _ _ _ _ (by omega)]; exact this.1, by rw [up2_n _ _ _ _ (by omega), up2_n _ _ _ _ (by omega)]; exact this.2⟩
          have fin1 : ∀ z1 : Int, z1 = (if i < x.c then x.ft i else 0) → wp Γ 0 0 (QQ Γ post) 233 [some (.ref 34), some (.int (iI i))] [.int (iI z1), .int (iI (2 + (i : Int))), .ref 35] n K (zw J4) L R := by
            intro z1 hz1
            have e10a := e10 (2 + i) z1
            refine z_iast (pc2 := 234) (j := 2 + i) C dX11_score_233 (by first | exact hy.k _ | assumption) (by omega) (by omega) (by decide) rfl ?_
            refine w_aload_n (pc2 := 235) C dX11_score_234 rfl rfl ?_
            refine w_getR (pc2 := 238) C dX11_score_235 fl_X11_7 (by first | exact hy.k _ | assumption) (by first | exact hy.r _ _ | assumption) rfl ?_
            refine w_bipush (pc2 := 240) (v := iI 102) C dX11_score_238 (by decide) rfl ?_
            refine w_iload_n (pc2 := 241) C dX11_score_240 rfl rfl ?_
            refine z_iadd (pc2 := 242) C dX11_score_241 rfl ?_
            refine w_iload_n (pc2 := 243) C dX11_score_242 rfl rfl ?_
            refine w_aload_n (pc2 := 244) C dX11_score_243 rfl rfl ?_
            refine z_getI (pc2 := 247) C dX11_score_244 fl_X11_90 (by first | exact hy.k _ | assumption) rfl ?_
            -- at 247: .if_icmp .ge 12
            refine z_icmp_ge (pc2 := 250) (tgt := 259) C dX11_score_247 (by decide) rfl (by omega) (by omega) (fun g2 => ?_) (fun g2 => ?_)
            · skip
              refine w_iconst (pc2 := 260) (v := iI 0) C dX11_score_259 (by decide) rfl ?_
              -- at 260: .iastore
              exact fin z1 0 hz1 (by rw [if_neg (by omega)])
            · skip
              refine w_aload_n (pc2 := 251) C dX11_score_250 rfl rfl ?_
              refine w_getR (pc2 := 254) C dX11_score_251 fl_X11_27 (by first | exact hy.k _ | assumption) (by first | exact hy.r _ _ | assumption) rfl ?_
              refine w_iload_n (pc2 := 255) C dX11_score_254 rfl rfl ?_
              -- at 255: .iaload
              refine z_iald (pc2 := 256) (j := i) C dX11_score_255 (by first | exact hy.k _ | assumption) (by omega) (by omega) (by decide) rfl ?_
              rw [show up2 J4 35 (2 + i) z1 40 i = x.fb i by rw [up2_row (by decide), c0 40 (by decide)]; exact (rar i (by omega)).2]
              refine w_goto (tgt := 260) C dX11_score_256 (by decide) ?_
              -- at 260: .iastore
              exact fin z1 _ hz1 (by rw [if_pos (by omega)])
          refine w_iload_n (pc2 := 203) C dX11_score_202 rfl rfl ?_
          refine w_bipush (pc2 := 205) (v := iI 100) C dX11_score_203 (by decide) rfl ?_
          -- at 205: .if_icmp .ge 62
          refine z_icmp_ge (pc2 := 208) (tgt := 267) C dX11_score_205 (by decide) rfl (by omega) (by omega) (fun g1 => ?_) (fun g1 => ?_)
          · exact absurd hi (by omega)
          · skip
            refine w_aload_n (pc2 := 209) C dX11_score_208 rfl rfl ?_
            refine w_getR (pc2 := 212) C dX11_score_209 fl_X11_7 (by first | exact hy.k _ | assumption) (by first | exact hy.r _ _ | assumption) rfl ?_
            refine w_iconst (pc2 := 213) (v := iI 2) C dX11_score_212 (by decide) rfl ?_
            refine w_iload_n (pc2 := 214) C dX11_score_213 rfl rfl ?_
            refine z_iadd (pc2 := 215) C dX11_score_214 rfl ?_
            refine w_iload_n (pc2 := 216) C dX11_score_215 rfl rfl ?_
            refine w_aload_n (pc2 := 217) C dX11_score_216 rfl rfl ?_
            refine z_getI (pc2 := 220) C dX11_score_217 fl_X11_90 (by first | exact hy.k _ | assumption) rfl ?_
            -- at 220: .if_icmp .ge 12
            refine z_icmp_ge (pc2 := 223) (tgt := 232) C dX11_score_220 (by decide) rfl (by omega) (by omega) (fun g2 => ?_) (fun g2 => ?_)
            · skip
              refine w_iconst (pc2 := 233) (v := iI 0) C dX11_score_232 (by decide) rfl ?_
              -- at 233: .iastore
              exact fin1 0 (by rw [if_neg (by omega)])
            · skip
              refine w_aload_n (pc2 := 224) C dX11_score_223 rfl rfl ?_
              refine w_getR (pc2 := 227) C dX11_score_224 fl_X11_24 (by first | exact hy.k _ | assumption) (by first | exact hy.r _ _ | assumption) rfl ?_
              refine w_iload_n (pc2 := 228) C dX11_score_227 rfl rfl ?_
              -- at 228: .iaload
              refine z_iald (pc2 := 229) (j := i) C dX11_score_228 (by first | exact hy.k _ | assumption) (by omega) (by omega) (by decide) rfl ?_
              rw [show J4 39 i = x.ft i by rw [c0 39 (by decide)]; exact (rar i (by omega)).1]
              refine w_goto (tgt := 233) C dX11_score_229 (by decide) ?_
              -- at 233: .iastore
              exact fin1 _ (by rw [if_pos (by omega)])
      refine w_aload_n (pc2 := 125) C dX11_score_124 rfl rfl ?_
      refine z_getI (pc2 := 128) C dX11_score_125 fl_X11_56 (by first | exact hy.k _ | assumption) rfl ?_
      -- at 128: .ifCond .ne 19
      refine z_if_ne (pc2 := 131) (tgt := 147) C dX11_score_128 (by decide) rfl (by omega) (fun g1 => ?_) (fun g1 => ?_)
      · exact absurd r7 g1
      · skip
        refine w_aload_n (pc2 := 132) C dX11_score_131 rfl rfl ?_
        refine z_getI (pc2 := 135) C dX11_score_132 fl_X11_108 (by first | exact hy.k _ | assumption) rfl ?_
        -- at 135: .ifCond .le 12
        refine z_if_le (pc2 := 138) (tgt := 147) C dX11_score_135 (by decide) rfl (by omega) (fun g2 => ?_) (fun g2 => ?_)
        · skip
          refine w_aload_n (pc2 := 148) C dX11_score_147 rfl rfl ?_
          refine w_getR (pc2 := 151) C dX11_score_148 fl_X11_7 (by first | exact hy.k _ | assumption) (by first | exact hy.r _ _ | assumption) rfl ?_
          refine w_sipush (pc2 := 154) (v := iI 231) C dX11_score_151 (by decide) rfl ?_
          refine w_aload_n (pc2 := 155) C dX11_score_154 rfl rfl ?_
          refine z_getI (pc2 := 158) C dX11_score_155 fl_X11_56 (by first | exact hy.k _ | assumption) rfl ?_
          -- at 158: .iastore
          refine z_iast (pc2 := 159) (j := 231) C dX11_score_158 (by first | exact hy.k _ | assumption) (by omega) (by omega) (by decide) rfl ?_
          refine w_aload_n (pc2 := 160) C dX11_score_159 rfl rfl ?_
          refine w_getR (pc2 := 163) C dX11_score_160 fl_X11_7 (by first | exact hy.k _ | assumption) (by first | exact hy.r _ _ | assumption) rfl ?_
          refine w_sipush (pc2 := 166) (v := iI 232) C dX11_score_163 (by decide) rfl ?_
          refine w_aload_n (pc2 := 167) C dX11_score_166 rfl rfl ?_
          refine z_getI (pc2 := 170) C dX11_score_167 fl_X11_59 (by first | exact hy.k _ | assumption) rfl ?_
          -- at 170: .iastore
          rw [r7, show up2 J3 35 231 0 34 8 = -1 by rw [up2_row (by decide)]; exact r8]
          refine z_iast (pc2 := 171) (j := 232) C dX11_score_170 (by first | exact hy.k _ | assumption) (by omega) (by omega) (by decide) rfl ?_
          have e7 : up2 (up2 J3 35 231 0) 35 232 (-1) 34 7 = 0 := by rw [up2_row (by decide), up2_row (by decide)]; exact r7
          refine w_aload_n (pc2 := 172) C dX11_score_171 rfl rfl ?_
          refine z_getI (pc2 := 175) C dX11_score_172 fl_X11_56 (by first | exact hy.k _ | assumption) rfl ?_
          -- at 175: .ifCond .eq 5
          refine z_if_eq (pc2 := 178) (tgt := 180) C dX11_score_175 (by decide) rfl (by omega) (fun g3 => ?_) (fun g3 => ?_)
          · skip
            refine w_aload_n (pc2 := 181) C dX11_score_180 rfl rfl ?_
            refine w_getR (pc2 := 184) C dX11_score_181 fl_X11_7 (by first | exact hy.k _ | assumption) (by first | exact hy.r _ _ | assumption) rfl ?_
            refine w_iconst (pc2 := 185) (v := iI 0) C dX11_score_184 (by decide) rfl ?_
            refine w_aload_n (pc2 := 186) C dX11_score_185 rfl rfl ?_
            refine z_getI (pc2 := 189) C dX11_score_186 fl_X11_90 (by first | exact hy.k _ | assumption) rfl ?_
            -- at 189: .iastore
            rw [show up2 (up2 J3 35 231 0) 35 232 (-1) 34 10 = (x.c : Nat) by rw [up2_row (by decide), up2_row (by decide)]; exact r10]
            refine z_iast (pc2 := 190) (j := 0) C dX11_score_189 (by first | exact hy.k _ | assumption) (by omega) (by omega) (by decide) rfl ?_
            refine w_aload_n (pc2 := 191) C dX11_score_190 rfl rfl ?_
            refine w_getR (pc2 := 194) C dX11_score_191 fl_X11_7 (by first | exact hy.k _ | assumption) (by first | exact hy.r _ _ | assumption) rfl ?_
            refine w_iconst (pc2 := 195) (v := iI 1) C dX11_score_194 (by decide) rfl ?_
            refine w_aload_n (pc2 := 196) C dX11_score_195 rfl rfl ?_
            refine z_getI (pc2 := 199) C dX11_score_196 fl_X11_93 (by first | exact hy.k _ | assumption) rfl ?_
            -- at 199: .iastore
            rw [show up2 (up2 (up2 J3 35 231 0) 35 232 (-1)) 35 0 (x.c : Nat) 34 11 = (x.tk : Nat) by rw [up2_row (by decide), up2_row (by decide), up2_row (by decide)]; exact r11]
            refine z_iast (pc2 := 200) (j := 1) C dX11_score_199 (by first | exact hy.k _ | assumption) (by omega) (by omega) (by decide) rfl ?_
            refine w_iconst (pc2 := 201) (v := iI 0) C dX11_score_200 (by decide) rfl ?_
            refine w_istore_n (pc2 := 202) C dX11_score_201 rfl (by decide) rfl rfl ?_
            try dsimp only [List.set]
            -- at 202: .iload_n 1
            exact key 100 0 _ (by omega) (fun a ha => by rw [up2_row ha, up2_row ha, up2_row ha, up2_row ha]) (by rw [up2_n _ _ _ _ (by omega), up2_n _ _ _ _ (by omega), up2_n _ _ _ _ (by omega), up2_s]) (by rw [up2_n _ _ _ _ (by omega), up2_n _ _ _ _ (by omega), up2_s]) (by rw [up2_n _ _ _ _ (by omega), up2_s]) (by rw [up2_s]) (fun j hj => absurd hj (by omega)) (fun y y1 y2 y3 => by rw [up2_n _ _ _ _ (by omega), up2_n _ _ _ _ (by omega), up2_n _ _ _ _ (by omega), up2_n _ _ _ _ (by omega), r35])
          · exact absurd e7 g3
        · exact absurd g2 (by omega)
    · have hrr := hno he
      have hlen : 0 < x.st.length := by
        rcases hst : x.st with _ | ⟨e, l⟩
        · exact absurd hst he
        · simp
      refine w_aload_n (pc2 := 125) C dX11_score_124 rfl rfl ?_
      refine z_getI (pc2 := 128) C dX11_score_125 fl_X11_56 (by first | exact hy.k _ | assumption) rfl ?_
      -- at 128: .ifCond .ne 19
      refine z_if_ne (pc2 := 131) (tgt := 147) C dX11_score_128 (by decide) rfl (by omega) (fun g1 => ?_) (fun g1 => ?_)
      · exact absurd r7 g1
      · skip
        refine w_aload_n (pc2 := 132) C dX11_score_131 rfl rfl ?_
        refine z_getI (pc2 := 135) C dX11_score_132 fl_X11_108 (by first | exact hy.k _ | assumption) rfl ?_
        -- at 135: .ifCond .le 12
        refine z_if_le (pc2 := 138) (tgt := 147) C dX11_score_135 (by decide) rfl (by omega) (fun g2 => ?_) (fun g2 => ?_)
        · exact absurd g2 (by omega)
        · skip
          refine w_aload_n (pc2 := 139) C dX11_score_138 rfl rfl ?_
          refine w_iconst (pc2 := 140) (v := iI 1) C dX11_score_139 (by decide) rfl ?_
          refine w_aload_n (pc2 := 141) C dX11_score_140 rfl rfl ?_
          refine z_getI (pc2 := 144) C dX11_score_141 fl_X11_65 (by first | exact hy.k _ | assumption) rfl ?_
          -- at 144: .invokevirtual 72
          rw [r6]
          refine w_cVv (pc2 := 147)  C dX11_score_144 mb_X11_72 mv_X11_fail (s_X11_fail hy r7) (by first | exact hy.k _ | assumption) rfl (by decide) rfl rfl (Nat.le_of_ble_eq_true rfl) ⟨by decide, by decide⟩ ⟨rfl, rfl⟩ ⟨by decide, by decide⟩ rfl ?_
          exact b147 _ (1, t) hrr (by rw [up2_n _ _ _ _ (by omega), up2_s]) (by rw [up2_s]) (by simp) (fun a a1 a2 a3 a4 a5 a6 a7 => by rw [up2_row a1, up2_row a1]; exact r0 a a1 a2 a3 a4 a5 a6 a7) (by rw [up2_n _ _ _ _ (by omega), up2_n _ _ _ _ (by omega)]; exact r4)
  have key : ∀ (f : Nat) (x : RS) (J3 : wJn), rrun s t f x = some r → RepA J J3 t x → J3 34 5 = (x.p : Nat) → WFR t x → wp Γ 0 0 (QQ Γ post) 70 [some (.ref 34), none] [] n K (zw J3) L R := by
    intro f
    induction f with
    | zero => intro x J3 hrr; cases hrr
    | succ f ih =>
      intro x J3 hrr hA r5 hW
      obtain ⟨r0, r4, r6, r16, r15, r11, r10, r7, r8, rar, rla, rst⟩ := id hA
      obtain ⟨w1, w2, w3, w4, w5, w6, w7, w8⟩ := id hW
      have hws := fun y => wfr_step (y := y) hs hW
      rw [rrun] at hrr
      have hT3 : TxR J3 s t := ⟨r6, hs, fun p hp => by rw [r0 38 (by decide) (by decide) (by decide) (by decide) (by decide) (by decide) (by decide)]; exact htp p hp⟩
      have hql := nb_le (s := s) w1
      have hnn := nb_nb hs x.p
      have hb := hs.bd (nb s t x.p)
      have hst : rstep s t x = _ := rfl
      conv at hst => rhs; unfold rstep
      generalize hq : nb s t x.p = q at *
      have A4 : RepA J (up2 J3 34 5 (q : Int)) t x := by
        refine ⟨fun a a1 a2 a3 a4 a5 a6 a7 => by rw [up2_row a1]; exact r0 a a1 a2 a3 a4 a5 a6 a7, by rw [up2_n _ _ _ _ (by omega)]; exact r4, by rw [up2_n _ _ _ _ (by omega)]; exact r6, by rw [up2_n _ _ _ _ (by omega)]; exact r16, by rw [up2_n _ _ _ _ (by omega)]; exact r15, by rw [up2_n _ _ _ _ (by omega)]; exact r11, by rw [up2_n _ _ _ _ (by omega)]; exact r10, by rw [up2_n _ _ _ _ (by omega)]; exact r7, by rw [up2_n _ _ _ _ (by omega)]; exact r8, fun i hi => by rw [up2_row (by decide), up2_row (by decide)]; exact rar i hi, fun i hi => by rw [up2_row (by decide)]; exact rla i hi, rst.cong (fun i hi => by rw [up2_row (by decide), up2_row (by decide)]; exact ⟨rfl, rfl⟩)⟩
      have s5 : up2 J3 34 5 (q : Int) 34 5 = (q : Nat) := up2_s _ _ _ _
      generalize hJ4 : up2 J3 34 5 (q : Int) = J4 at A4 s5
      obtain ⟨q0, q4, q6, q16, q15, q11, q10, q7, q8, qar, qla, qst⟩ := id A4
      have hT4 : TxR J4 s t := ⟨q6, hs, fun p hp => by rw [q0 38 (by decide) (by decide) (by decide) (by decide) (by decide) (by decide) (by decide)]; exact htp p hp⟩
      refine w_aload_n (pc2 := 71) C dX11_score_70 rfl rfl ?_
      refine z_getI (pc2 := 74) C dX11_score_71 fl_X11_56 (by first | exact hy.k _ | assumption) rfl ?_
      -- at 74: .ifCond .ne 50
      refine z_if_ne (pc2 := 77) (tgt := 124) C dX11_score_74 (by decide) rfl (by omega) (fun g1 => ?_) (fun g1 => ?_)
      · exact absurd r7 g1
      · skip
        refine w_aload_n (pc2 := 78) C dX11_score_77 rfl rfl ?_
        -- at 78: .invokevirtual 68
        refine w_cVi (pc2 := 81)  C dX11_score_78 mb_X11_68 mv_X11_next (s_X11_next hy hT3 r5 w1) (by first | exact hy.k _ | assumption) rfl (by decide) rfl rfl (Nat.le_of_ble_eq_true rfl) ⟨by decide, by decide⟩ ⟨rfl, rfl⟩ ⟨by decide, by decide⟩ rfl ?_
        rw [hq, hJ4]
        refine w_iconst (pc2 := 82) (v := iI (-1)) C dX11_score_81 (by decide) rfl ?_
        -- at 82: .if_icmp .eq 42
        refine z_icmp_eq (pc2 := 85) (tgt := 124) C dX11_score_82 (by decide) rfl (by omega) (by omega) (fun g2 => ?_) (fun g2 => ?_)
        · rw [if_pos g2] at hst
          have eqt : q = t := by
            rcases Nat.lt_or_ge q t with z | z
            · have := hs.2.2 q z; omega
            · omega
          refine e124 J4 x A4 hW (fun he => ?_) (fun he => ?_)
          · rw [if_pos he] at hst
            rw [hst] at hrr
            exact (Option.some.inj hrr).symm
          · rw [if_neg he] at hst
            rw [hst] at hrr
            rw [← eqt]
            exact (Option.some.inj hrr).symm
        · rw [if_neg g2] at hst
          have hqt : q < t := by
            rcases Nat.lt_or_ge q t with z | z
            · exact z
            · exact absurd (hs.2.1 q z) g2
          refine w_aload_n (pc2 := 86) C dX11_score_85 rfl rfl ?_
          -- at 86: .invokevirtual 68
          refine w_cVi (pc2 := 89)  C dX11_score_86 mb_X11_68 mv_X11_next (s_X11_next hy hT4 s5 hql) (by first | exact hy.k _ | assumption) rfl (by decide) rfl rfl (Nat.le_of_ble_eq_true rfl) ⟨by decide, by decide⟩ ⟨rfl, rfl⟩ ⟨by decide, by decide⟩ rfl ?_
          rw [hnn, ← s5, up2_self]
          refine w_istore_n (pc2 := 90) C dX11_score_89 rfl (by decide) rfl rfl ?_
          try dsimp only [List.set]
          refine w_iload_n (pc2 := 91) C dX11_score_90 rfl rfl ?_
          -- at 91: .invokestatic 79
          refine w_cSi (pc2 := 94)  C dX11_score_91 mb_X11_79 ms_X11_isDigit (s_X11_isDigit (by omega)) rfl rfl (Nat.le_of_ble_eq_true rfl) ⟨by decide, by decide⟩ ⟨rfl, rfl⟩ ⟨by decide, by decide⟩ rfl ?_
          -- at 94: .ifCond .eq 10
          refine z_if_eq (pc2 := 97) (tgt := 104) C dX11_score_94 (by decide) rfl (by split <;> omega) (fun g3 => ?_) (fun g3 => ?_)
          · have hnd : ¬ IsD (s q) := fun z => by
              rw [if_pos z] at g3; exact absurd g3 (by decide)
            rw [if_neg hnd] at hst
            refine w_iload_n (pc2 := 105) C dX11_score_104 rfl rfl ?_
            refine w_bipush (pc2 := 107) (v := iI 125) C dX11_score_105 (by decide) rfl ?_
            -- at 107: .if_icmp .ne 10
            refine z_icmp_ne (pc2 := 110) (tgt := 117) C dX11_score_107 (by decide) rfl (by omega) (by omega) (fun g4 => ?_) (fun g4 => ?_)
            · rw [if_neg g4] at hst
              refine w_aload_n (pc2 := 118) C dX11_score_117 rfl rfl ?_
              -- at 118: .invokevirtual 117
              refine w_gV (pc2 := 121)  C dX11_score_118 mb_X11_117 mv_X11_item (s_X11_item hy hT4 s5 hqt hnn q7 q11 w4 q10 w5 (qla q (by omega)) (w7 q) q15 w3.2 (fun i hi => by rw [(qar i hi).1, (qar i hi).2]; exact w8 i hi)) (by first | exact hy.k _ | assumption) rfl (by decide) rfl rfl (Nat.le_of_ble_eq_true rfl) ⟨by decide, by decide⟩ ⟨rfl, rfl⟩ ⟨by decide, by decide⟩ rfl ?_
              rintro r2 n2 K2 I2 L2 R2 ⟨J5, hD, hI⟩
              obtain ⟨d1, d2, d3, d4, d5, d6⟩ := hD
              replace d2 := d2.symm
              replace d3 := d3.symm
              replace d5 := d5.symm
              replace d6 := d6.symm
              subst d1
              subst d2
              subst d3
              subst d4
              subst d5
              subst d6
              refine w_goto (tgt := 70) C dX11_score_121 (by decide) ?_
              -- at 70: .aload_n 0
              obtain ⟨i1, i2, i3⟩ := hI
              refine w_drop (lo2 := [some (.ref 34), none]) ?_ ⟨rfl, trivial⟩
              by_cases hii : IsI (s q)
              · rw [if_pos hii] at hst
                unfold rItm at hst
                by_cases htt : 1999 < x.tk
                · rw [if_pos htt] at hst
                  rw [hst] at hrr
                  exact b70 J4 J5 _ (Option.some.inj hrr).symm q0 q4 (i2 hii htt)
                · rw [if_neg htt] at hst
                  have i3 := i3 hii (by omega)
                  rcases hit : itm s t q (s q) with fl | ⟨m, a, b, v, e⟩
                  · rw [hit] at hst
                    rw [hst] at hrr
                    exact b70 J4 J5 _ (Option.some.inj hrr).symm q0 q4 (i3.1 fl hit)
                  · rw [hit] at hst
                    have i4 := i3.2 m a b v e hit
                    change rstep s t x = (if _ then _ else _) at hst
                    by_cases hful : 100 < x.c + addOf (s q) m (rLen v (x.la q) x.lat)
                    · rw [if_pos hful] at hst
                      rw [hst] at hrr
                      exact b70 J4 J5 _ (Option.some.inj hrr).symm q0 q4 (i4.1 hful)
                    · rw [if_neg hful] at hst
                      obtain ⟨v1, v2, v3, v4, v5, v6, v7, v8, v9, v10, v11⟩ := i4.2 (by omega)
                      have hw2 := hws _ hst
                      rw [hst] at hrr
                      refine ih _ J5 hrr ⟨fun a a1 a2 a3 a4 a5 a6 a7 => by rw [v7 a a1 a2 a3 a4 a7]; exact q0 a a1 a2 a3 a4 a5 a6 a7, by rw [v6 4 (by omega)]; exact q4, by rw [v6 6 (by omega)]; exact q6, by rw [v6 16 (by omega)]; exact q16, v5, v3, v4, v1, by rw [v6 8 (by omega)]; exact q8, fun i hi => ?_, fun i hi => ?_, qst.cong (fun i hi => by rw [v7 42 (by decide) (by decide) (by decide) (by decide) (by decide), v7 43 (by decide) (by decide) (by decide) (by decide) (by decide)]; exact ⟨rfl, rfl⟩)⟩ v2 hw2
                      · have hi3 : i < x.c + addOf (s q) m (rLen v (x.la q) x.lat) := hi
                        show J5 39 i = exF x.ft x.c (ftI (s q) x.tk) i ∧ J5 40 i = exF x.fb x.c (fbI (s q) m a b) i
                        unfold exF
                        by_cases z : i < x.c
                        · rw [if_pos z, if_pos z, (v8 i z).1, (v8 i z).2]; exact qar i z
                        · have := v9 (i - x.c) (by omega)
                          rw [show x.c + (i - x.c) = i by omega] at this
                          rw [if_neg z, if_neg z]; exact this
                      · show J5 41 i = ((if i = q then _ else x.la i : Nat) : Int)
                        by_cases z : i = q
                        · subst z; rw [if_pos rfl]; exact v10
                        · rw [if_neg z, v11 i z]; exact qla i hi
              · rw [if_neg hii] at hst
                rw [hst] at hrr
                exact b70 J4 J5 _ (Option.some.inj hrr).symm q0 q4 (i1 hii)
            · rw [if_pos g4] at hst
              have hsr : 0 < x.st.length → 0 ≤ J4 43 (x.st.length - 1) ∧ J4 43 (x.st.length - 1) ≤ 100 := by
                intro hl
                rcases hss : x.st with _ | ⟨e, l⟩
                · rw [hss] at hl; exact absurd hl (by decide)
                · rw [hss] at qst w6
                  have := w6 e (List.mem_cons_self ..)
                  simp only [List.length_cons, Nat.add_sub_cancel]
                  rw [qst.2.1]
                  omega
              refine w_aload_n (pc2 := 111) C dX11_score_110 rfl rfl ?_
              -- at 111: .invokevirtual 114
              refine w_cVv (pc2 := 114)  C dX11_score_111 mb_X11_114 mv_X11_ends (s_X11_ends hy s5 q16 w2 q7 hsr) (by first | exact hy.k _ | assumption) rfl (by decide) rfl rfl (Nat.le_of_ble_eq_true rfl) ⟨by decide, by decide⟩ ⟨rfl, rfl⟩ ⟨by decide, by decide⟩ rfl ?_
              refine w_goto (tgt := 121) C dX11_score_114 (by decide) ?_
              refine w_goto (tgt := 70) C dX11_score_121 (by decide) ?_
              -- at 70: .aload_n 0
              refine w_drop (lo2 := [some (.ref 34), none]) ?_ ⟨rfl, trivial⟩
              unfold rCls at hst
              rcases hss : x.st with _ | ⟨e, l⟩
              · rw [hss] at hst
                rw [hst] at hrr
                rw [enR, if_pos List.length_nil]
                exact b70 J4 _ (1, q) (Option.some.inj hrr).symm q0 q4 ⟨by rw [up2_n _ _ _ _ (by omega), up2_s], by rw [up2_s], by simp, fun a a1 _ _ _ _ _ _ => by rw [up2_row a1, up2_row a1], by rw [up2_n _ _ _ _ (by omega), up2_n _ _ _ _ (by omega)]⟩
              · rw [hss] at hst qst w6 w2 q16
                have we := w6 e (List.mem_cons_self ..)
                obtain ⟨t1, t2, t3⟩ := qst
                change rstep s t x = (if _ then _ else _) at hst
                have el : (e :: l).length - 1 = l.length := by simp
                rw [enR, if_neg (by simp), el, t1, t2]
                by_cases hc : 1 < e.2
                · rw [if_pos hc] at hst
                  rw [if_pos (by omega)]
                  have hw2 := hws _ hst
                  rw [hst] at hrr
                  refine ih _ _ hrr ⟨fun a a1 a2 a3 a4 a5 a6 a7 => by rw [up2_row a1, up2_row a6]; exact q0 a a1 a2 a3 a4 a5 a6 a7, by rw [up2_n _ _ _ _ (by omega), up2_row (by decide)]; exact q4, by rw [up2_n _ _ _ _ (by omega), up2_row (by decide)]; exact q6, by rw [up2_n _ _ _ _ (by omega), up2_row (by decide)]; exact q16, by rw [up2_n _ _ _ _ (by omega), up2_row (by decide)]; exact q15, by rw [up2_n _ _ _ _ (by omega), up2_row (by decide)]; exact q11, by rw [up2_n _ _ _ _ (by omega), up2_row (by decide)]; exact q10, by rw [up2_n _ _ _ _ (by omega), up2_row (by decide)]; exact q7, by rw [up2_n _ _ _ _ (by omega), up2_row (by decide)]; exact q8, fun i hi => by rw [up2_row (by decide), up2_row (by decide), up2_row (by decide), up2_row (by decide)]; exact qar i hi, fun i hi => by rw [up2_row (by decide), up2_row (by decide)]; exact qla i hi, ⟨by rw [up2_row (by decide), up2_row (by decide)]; exact t1, by rw [up2_row (by decide), up2_s]; show (e.2 : Int) - 1 = ((e.2 - 1 : Nat) : Int); omega, t3.cong (fun i hi => by rw [up2_row (by decide), up2_row (by decide), up2_row (by decide), up2_n _ _ _ _ (by omega)]; exact ⟨rfl, rfl⟩)⟩⟩ (by rw [up2_s]) hw2
                · rw [if_neg hc] at hst
                  rw [if_neg (by omega)]
                  have hw2 := hws _ hst
                  rw [hst] at hrr
                  refine ih _ _ hrr ⟨fun a a1 a2 a3 a4 a5 a6 a7 => by rw [up2_row a1, up2_row a1, up2_row a6]; exact q0 a a1 a2 a3 a4 a5 a6 a7, by rw [up2_n _ _ _ _ (by omega), up2_n _ _ _ _ (by omega), up2_row (by decide)]; exact q4, by rw [up2_n _ _ _ _ (by omega), up2_n _ _ _ _ (by omega), up2_row (by decide)]; exact q6, by rw [up2_s]; show (((e :: l).length : Nat) : Int) - 1 = (l.length : Nat); simp, by rw [up2_n _ _ _ _ (by omega), up2_n _ _ _ _ (by omega), up2_row (by decide)]; exact q15, by rw [up2_n _ _ _ _ (by omega), up2_n _ _ _ _ (by omega), up2_row (by decide)]; exact q11, by rw [up2_n _ _ _ _ (by omega), up2_n _ _ _ _ (by omega), up2_row (by decide)]; exact q10, by rw [up2_n _ _ _ _ (by omega), up2_n _ _ _ _ (by omega), up2_row (by decide)]; exact q7, by rw [up2_n _ _ _ _ (by omega), up2_n _ _ _ _ (by omega), up2_row (by decide)]; exact q8, fun i hi => by rw [up2_row (by decide), up2_row (by decide), up2_row (by decide), up2_row (by decide), up2_row (by decide), up2_row (by decide)]; exact qar i hi, fun i hi => by rw [up2_row (by decide), up2_row (by decide), up2_row (by decide)]; exact qla i hi, t3.cong (fun i hi => by rw [up2_row (by decide), up2_row (by decide), up2_row (by decide), up2_row (by decide), up2_row (by decide), up2_n _ _ _ _ (by omega)]; exact ⟨rfl, rfl⟩)⟩ (by rw [up2_n _ _ _ _ (by omega), up2_s]; show (q : Int) + 1 = ((q + 1 : Nat) : Int); omega) hw2
          · have hd : IsD (s q) := by
              rcases Decidable.em (IsD (s q)) with z | z
              · exact z
              · rw [if_neg z] at g3; exact absurd rfl g3
            rw [if_pos hd] at hst
            refine w_aload_n (pc2 := 98) C dX11_score_97 rfl rfl ?_
            -- at 98: .invokevirtual 111
            refine w_gV (pc2 := 101)  C dX11_score_98 mb_X11_111 mv_X11_group (s_X11_group hy hT4 s5 hql q7 q16 w2) (by first | exact hy.k _ | assumption) rfl (by decide) rfl rfl (Nat.le_of_ble_eq_true rfl) ⟨by decide, by decide⟩ ⟨rfl, rfl⟩ ⟨by decide, by decide⟩ rfl ?_
            rintro r2 n2 K2 I2 L2 R2 ⟨J5, hD, hG⟩
            obtain ⟨d1, d2, d3, d4, d5, d6⟩ := hD
            replace d2 := d2.symm
            replace d3 := d3.symm
            replace d5 := d5.symm
            replace d6 := d6.symm
            subst d1
            subst d2
            subst d3
            subst d4
            subst d5
            subst d6
            refine w_goto (tgt := 121) C dX11_score_101 (by decide) ?_
            refine w_goto (tgt := 70) C dX11_score_121 (by decide) ?_
            -- at 70: .aload_n 0
            refine w_drop (lo2 := [some (.ref 34), none]) ?_ ⟨rfl, trivial⟩
            unfold rOpn at hst
            rcases ho : opn s t q x.st.length with fl | ⟨v, e⟩
            · rw [ho] at hst
              rw [hst] at hrr
              exact b70 J4 J5 _ (Option.some.inj hrr).symm q0 q4 (hG.1 fl ho)
            · rw [ho] at hst
              obtain ⟨v1, v2, v3, v4, v5, v6, v7, v8⟩ := hG.2 v e ho
              have k := opn_ok hs hql ho
              have hw2 := hws _ hst
              rw [hst] at hrr
              exact ih _ J5 hrr ⟨fun a a1 a2 a3 a4 a5 a6 a7 => by rw [v5 a a1 a5 a6]; exact q0 a a1 a2 a3 a4 a5 a6 a7, by rw [v4 4 (by decide) (by decide) (by decide) (by decide)]; exact q4, by rw [v4 6 (by decide) (by decide) (by decide) (by decide)]; exact q6, v3, by rw [v4 15 (by decide) (by decide) (by decide) (by decide)]; exact q15, by rw [v4 11 (by decide) (by decide) (by decide) (by decide)]; exact q11, by rw [v4 10 (by decide) (by decide) (by decide) (by decide)]; exact q10, v1, by rw [v4 8 (by decide) (by decide) (by decide) (by decide)]; exact q8, fun i hi => by rw [v5 39 (by decide) (by decide) (by decide), v5 40 (by decide) (by decide) (by decide)]; exact qar i hi, fun i hi => by rw [v5 41 (by decide) (by decide) (by decide)]; exact qla i hi, ⟨v7, by rw [v8]; show v = (v.toNat : Nat); omega, qst.cong (fun i hi => v6 i (by omega))⟩⟩ v2 hw2
  have zer : ∀ (d i : Nat) (J3 : wJn), i + d = 1001 → (∀ a, a ≠ 34 → a ≠ 41 → J3 a = J a) → J3 34 4 = 0 → J3 34 6 = (t : Nat) → J3 34 5 = 0 → J3 34 16 = 0 → J3 34 15 = 4 → J3 34 11 = 0 → J3 34 10 = 0 → J3 34 7 = 0 → J3 34 8 = -1 → (∀ j, j < i → J3 41 j = 0) → wp Γ 0 0 (QQ Γ post) 50 [some (.ref 34), some (.int (iI i))] [] n K (zw J3) L R := by
    intro d
    induction d with
    | zero =>
      intro i J3 hi c0 c4 c6 c5 c16 c15 c11 c10 c7 c8 c41
      refine w_iload_n (pc2 := 51) C dX11_score_50 rfl rfl ?_
      refine w_sipush (pc2 := 54) (v := iI 1001) C dX11_score_51 (by decide) rfl ?_
      -- at 54: .if_icmp .ge 16
      refine z_icmp_ge (pc2 := 57) (tgt := 70) C dX11_score_54 (by decide) rfl (by omega) (by omega) (fun g1 => ?_) (fun g1 => ?_)
      · exact w_drop (key f rs0 J3 hr ⟨fun a a1 _ _ a4 _ _ _ => c0 a a1 a4, c4, c6, c16, c15, c11, c10, c7, c8, fun i hi => absurd hi (Nat.not_lt_zero i), fun i hi => c41 i (by omega), trivial⟩ c5 (wfr0 t)) ⟨rfl, trivial⟩
      · exact absurd hi (by omega)
    | succ d ih =>
      intro i J3 hi c0 c4 c6 c5 c16 c15 c11 c10 c7 c8 c41
      refine w_iload_n (pc2 := 51) C dX11_score_50 rfl rfl ?_
      refine w_sipush (pc2 := 54) (v := iI 1001) C dX11_score_51 (by decide) rfl ?_
      -- at 54: .if_icmp .ge 16
      refine z_icmp_ge (pc2 := 57) (tgt := 70) C dX11_score_54 (by decide) rfl (by omega) (by omega) (fun g1 => ?_) (fun g1 => ?_)
      · exact absurd hi (by omega)
      · skip
        refine w_aload_n (pc2 := 58) C dX11_score_57 rfl rfl ?_
        refine w_getR (pc2 := 61) C dX11_score_58 fl_X11_30 (by first | exact hy.k _ | assumption) (by first | exact hy.r _ _ | assumption) rfl ?_
        refine w_iload_n (pc2 := 62) C dX11_score_61 rfl rfl ?_
        refine w_iconst (pc2 := 63) (v := iI 0) C dX11_score_62 (by decide) rfl ?_
        -- at 63: .iastore
        refine z_iast (pc2 := 64) (j := i) C dX11_score_63 (by first | exact hy.k _ | assumption) (by omega) (by omega) (by decide) rfl ?_
        refine w_iinc (pc2 := 67) C dX11_score_64 rfl (iI_add _ _) rfl (by decide) rfl rfl ?_
        try dsimp only [List.set]
        refine w_goto (tgt := 50) C dX11_score_67 (by decide) ?_
        -- at 50: .iload_n 1
        exact ih (i + 1) _ (by omega) (fun a a1 a2 => by rw [up2_row a2]; exact c0 a a1 a2) (by rw [up2_row (by decide)]; exact c4) (by rw [up2_row (by decide)]; exact c6) (by rw [up2_row (by decide)]; exact c5) (by rw [up2_row (by decide)]; exact c16) (by rw [up2_row (by decide)]; exact c15) (by rw [up2_row (by decide)]; exact c11) (by rw [up2_row (by decide)]; exact c10) (by rw [up2_row (by decide)]; exact c7) (by rw [up2_row (by decide)]; exact c8) (fun j hj => by
          by_cases e : j = i
          · subst e; rw [up2_s]
          · rw [up2_n _ _ _ _ (by omega)]; exact c41 j (by omega))
  refine w_aload_n (pc2 := 1) C dX11_score_0 rfl rfl ?_
  refine w_iconst (pc2 := 2) (v := iI 0) C dX11_score_1 (by decide) rfl ?_
  refine z_putI (pc2 := 5) C dX11_score_2 fl_X11_62 (by first | exact hy.k _ | assumption) (by rfl) (by rfl) rfl ?_
  refine w_aload_n (pc2 := 6) C dX11_score_5 rfl rfl ?_
  refine w_aload_n (pc2 := 7) C dX11_score_6 rfl rfl ?_
  refine z_getI (pc2 := 10) C dX11_score_7 fl_X11_52 (by first | exact hy.k _ | assumption) rfl ?_
  refine z_putI (pc2 := 13) C dX11_score_10 fl_X11_65 (by first | exact hy.k _ | assumption) (by rfl) (by rfl) rfl ?_
  refine w_aload_n (pc2 := 14) C dX11_score_13 rfl rfl ?_
  refine w_iconst (pc2 := 15) (v := iI 0) C dX11_score_14 (by decide) rfl ?_
  refine z_putI (pc2 := 18) C dX11_score_15 fl_X11_52 (by first | exact hy.k _ | assumption) (by rfl) (by rfl) rfl ?_
  refine w_aload_n (pc2 := 19) C dX11_score_18 rfl rfl ?_
  refine w_iconst (pc2 := 20) (v := iI 0) C dX11_score_19 (by decide) rfl ?_
  refine z_putI (pc2 := 23) C dX11_score_20 fl_X11_56 (by first | exact hy.k _ | assumption) (by rfl) (by rfl) rfl ?_
  refine w_aload_n (pc2 := 24) C dX11_score_23 rfl rfl ?_
  refine w_iconst (pc2 := 25) (v := iI (-1)) C dX11_score_24 (by decide) rfl ?_
  refine z_putI (pc2 := 28) C dX11_score_25 fl_X11_59 (by first | exact hy.k _ | assumption) (by rfl) (by rfl) rfl ?_
  refine w_aload_n (pc2 := 29) C dX11_score_28 rfl rfl ?_
  refine w_iconst (pc2 := 30) (v := iI 0) C dX11_score_29 (by decide) rfl ?_
  refine z_putI (pc2 := 33) C dX11_score_30 fl_X11_90 (by first | exact hy.k _ | assumption) (by rfl) (by rfl) rfl ?_
  refine w_aload_n (pc2 := 34) C dX11_score_33 rfl rfl ?_
  refine w_iconst (pc2 := 35) (v := iI 0) C dX11_score_34 (by decide) rfl ?_
  refine z_putI (pc2 := 38) C dX11_score_35 fl_X11_93 (by first | exact hy.k _ | assumption) (by rfl) (by rfl) rfl ?_
  refine w_aload_n (pc2 := 39) C dX11_score_38 rfl rfl ?_
  refine w_iconst (pc2 := 40) (v := iI 0) C dX11_score_39 (by decide) rfl ?_
  refine z_putI (pc2 := 43) C dX11_score_40 fl_X11_108 (by first | exact hy.k _ | assumption) (by rfl) (by rfl) rfl ?_
  refine w_aload_n (pc2 := 44) C dX11_score_43 rfl rfl ?_
  refine w_iconst (pc2 := 45) (v := iI 4) C dX11_score_44 (by decide) rfl ?_
  refine z_putI (pc2 := 48) C dX11_score_45 fl_X11_87 (by first | exact hy.k _ | assumption) (by rfl) (by rfl) rfl ?_
  refine w_iconst (pc2 := 49) (v := iI 0) C dX11_score_48 (by decide) rfl ?_
  refine w_istore_n (pc2 := 50) C dX11_score_49 rfl (by decide) rfl rfl ?_
  try dsimp only [List.set]
  -- at 50: .iload_n 1
  rw [show up2 J 34 5 0 34 4 = (t : Int) by rw [up2_n _ _ _ _ (by omega)]; exact hta]
  refine zer 1001 0 _ (by omega) (fun a a1 a2 => by simp only [up2_row a1]) ?_ ?_ ?_ ?_ ?_ ?_ ?_ ?_ ?_ (fun j hj => absurd hj (by omega)) <;> simp [up2]
end SCORER
