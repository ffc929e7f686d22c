/-! ===== an ITEM, read by the reference ===== -/
/-- what a good ITEM leaves -/
def ItR (J J2 : wJn) (q c tk l lat2 e add : Nat) (ft fb : Nat → Int) : Prop := J2 34 7 = 0 ∧ J2 34 5 = (e : Nat) ∧ J2 34 11 = ((tk + l : Nat) : Int) ∧ J2 34 10 = ((c + add : Nat) : Int) ∧ J2 34 15 = (lat2 : Nat) ∧ (∀ b, b = 4 ∨ b = 6 ∨ b = 8 ∨ b = 16 → J2 34 b = J 34 b) ∧ (∀ a, a ≠ 34 → a ≠ 39 → a ≠ 40 → a ≠ 41 → a ≠ 44 → J2 a = J a) ∧ (∀ i, i < c → J2 39 i = J 39 i ∧ J2 40 i = J 40 i) ∧ (∀ i, i < add → J2 39 (c + i) = ft i ∧ J2 40 (c + i) = fb i) ∧ J2 41 q = (l : Nat) ∧ (∀ i, i ≠ q → J2 41 i = J 41 i)
/-- what item leaves -/
def RiR (J J2 : wJn) (s : Nat → Int) (t q c tk la lat : Nat) : Prop :=
  (¬ IsI (s q) → FltR J J2 (1, q)) ∧ (IsI (s q) → 1999 < tk → FltR J J2 (4, q)) ∧ (IsI (s q) → tk ≤ 1999 →
    (∀ f, itm s t q (s q) = .inl f → FltR J J2 f) ∧
    (∀ m a b v e, itm s t q (s q) = .inr (m, a, b, v, e) → (100 < c + addOf (s q) m (rLen v la lat) → FltR J J2 (4, q)) ∧ (c + addOf (s q) m (rLen v la lat) ≤ 100 → ItR J J2 q c tk (rLen v la lat) (if la = 0 then rLen v la lat else lat) e (addOf (s q) m (rLen v la lat)) (ftI (s q) tk) (fbI (s q) m a b))))
/-- while BELLS are read -/
def FrI (J J3 : wJn) : Prop := (∀ a, a ≠ 34 → a ≠ 44 → J3 a = J a) ∧ (∀ b, b ≠ 5 → b ≠ 7 → b ≠ 8 → b ≠ 9 → J3 34 b = J 34 b)
/-- STRIKES written so far -/
def PlR (J5 J6 : wJn) (c k : Nat) (ft fb : Nat → Int) : Prop := (∀ a, a ≠ 34 → a ≠ 39 → a ≠ 40 → J6 a = J5 a) ∧ (∀ b, b ≠ 10 → J6 34 b = J5 34 b) ∧ J6 34 10 = ((c + k : Nat) : Int) ∧ (∀ i, i < c → J6 39 i = J5 39 i ∧ J6 40 i = J5 40 i) ∧ (∀ i, i < k → J6 39 (c + i) = ft i ∧ J6 40 (c + i) = fb i)
theorem itm_f {s : Nat → Int} {t p : Nat} {x : Int} {f : Flt} (h : bod s t p x = .inl f) : itm s t p x = .inl f := by unfold itm; rw [h]
theorem itm_g {s : Nat → Int} {t p : Nat} {x : Int} {m a b e : Nat} {f : Flt} (h : bod s t p x = .inr (m, a, b, e)) (h2 : lng s t e = .inl f) : itm s t p x = .inl f := by
  unfold itm; rw [h]; show (match lng s t e with | .inl f => _ | .inr (v, e2) => _) = _; rw [h2]
theorem itm_h {s : Nat → Int} {t p : Nat} {x : Int} {m a b e : Nat} {v : Int} {e2 : Nat} (h : bod s t p x = .inr (m, a, b, e)) (h2 : lng s t e = .inr (v, e2)) : itm s t p x = .inr (m, a, b, v, e2) := by
  unfold itm; rw [h]; show (match lng s t e with | .inl f => _ | .inr (v, e2) => _) = _; rw [h2]
theorem bel_f {s : Nat → Int} {t p m : Nat} {f : Flt} (h : num s t p 0 23 = .inl f) : bel s t p m = .inl f := by unfold bel; rw [h]
theorem bel_g {s : Nat → Int} {t p m : Nat} {v : Int} {q e : Nat} (h : num s t p 0 23 = .inr (v, q, e)) (h2 : m.testBit v.toNat = true ∨ popc m 24 = 4) : bel s t p m = .inl (2, q) := by
  unfold bel; rw [h]; show (if _ then _ else _) = _; rw [if_pos h2]
theorem bel_h {s : Nat → Int} {t p m : Nat} {v : Int} {q e : Nat} (h : num s t p 0 23 = .inr (v, q, e)) (h2 : ¬ (m.testBit v.toNat = true ∨ popc m 24 = 4)) : bel s t p m = .inr (v.toNat, e) := by
  unfold bel; rw [h]; show (if _ then _ else _) = _; rw [if_neg h2]
theorem PlR.add {J5 J6 J7 : wJn} {c k : Nat} {ft fb : Nat → Int} {τ β : Int} (h : PlR J5 J6 c k ft fb) (hi : InsR J6 J7 (c + k) (c + k) τ β) (h1 : τ = ft k) (h2 : β = fb k) : PlR J5 J7 c (k + 1) ft fb := by
  obtain ⟨a1, a2, a3, a4, a5⟩ := h
  obtain ⟨i1, i2, i3, i4, i5, i6⟩ := hi
  refine ⟨fun a x1 x2 x3 => by rw [i1 a x1 x2 x3]; exact a1 a x1 x2 x3, fun b hb => by rw [i2 b hb]; exact a2 b hb, by rw [i3]; rfl, fun i hi => ?_, fun i hi => ?_⟩
  · have := i4 i (by omega)
    rw [this.1, this.2]; exact a4 i hi
  · by_cases e : i = k
    · subst e; rw [i5.1, i5.2]; exact ⟨h1, h2⟩
    · have := i4 (c + i) (by omega)
      rw [this.1, this.2]; exact a5 i (by omega)
theorem PlR.ins {J5 J6 J7 : wJn} {c k : Nat} {τ : Int} {bs : Nat → Nat} (hd : DsB bs (k + 1)) (h : PlR J5 J6 c k (fun _ => τ) (fun i => (rnk (orF bs k) i 24 : Nat))) (hi : InsR J6 J7 (c + k) (c + popc (orF bs k) (bs k)) τ (bs k : Nat)) : PlR J5 J7 c (k + 1) (fun _ => τ) (fun i => (rnk (orF bs (k + 1)) i 24 : Nat)) := by
  obtain ⟨a1, a2, a3, a4, a5⟩ := h
  obtain ⟨i1, i2, i3, i4, i5, i6⟩ := hi
  have hk := hd k (by omega)
  have hp := dsb_popc (hd.le (Nat.le_succ k))
  have hpl := popc_mn (orF bs k) (a := bs k) 24 (by omega)
  refine ⟨fun a x1 x2 x3 => by rw [i1 a x1 x2 x3]; exact a1 a x1 x2 x3, fun b hb => by rw [i2 b hb]; exact a2 b hb, by rw [i3]; rfl, fun i hi => ?_, fun i hi => ?_⟩
  · have := i4 i (by omega)
    rw [this.1, this.2]; exact a4 i hi
  · rcases Nat.lt_trichotomy i (popc (orF bs k) (bs k)) with q | q | q
    · have := i4 (c + i) (by omega)
      rw [this.1, this.2]
      have h5 := a5 i (by omega)
      refine ⟨h5.1, ?_⟩
      rw [h5.2]
      have := (rnk_lo hk.2 hk.1 q).2
      show ((rnk (orF bs k) i 24 : Nat) : Int) = (rnk (orF bs k ||| 2 ^ bs k) i 24 : Nat)
      rw [this]
    · subst q
      rw [i5.1, i5.2]
      refine ⟨rfl, ?_⟩
      show ((bs k : Nat) : Int) = (rnk (orF bs k ||| 2 ^ bs k) (popc (orF bs k) (bs k)) 24 : Nat)
      rw [rnk_mid hk.2 hk.1]
    · have := i6 (c + i) (by omega) (by omega)
      rw [this.1, this.2, show c + i - 1 = c + (i - 1) by omega]
      have h5 := a5 (i - 1) (by omega)
      refine ⟨h5.1, ?_⟩
      rw [h5.2]
      have := (rnk_hi hk.2 (i := i - 1) (by omega) (by omega)).2
      rw [show i - 1 + 1 = i by omega] at this
      show ((rnk (orF bs k) (i - 1) 24 : Nat) : Int) = (rnk (orF bs k ||| 2 ^ bs k) i 24 : Nat)
      rw [this]
theorem PlR.cong {J5 J6 : wJn} {c k : Nat} {ft fb ft2 fb2 : Nat → Int} (h : PlR J5 J6 c k ft fb) (h1 : ∀ i, ft2 i = ft i) (h2 : ∀ i, fb2 i = fb i) : PlR J5 J6 c k ft2 fb2 := by
  rw [show ft2 = ft from funext h1, show fb2 = fb from funext h2]; exact h
theorem bod_f {s : Nat → Int} {t p : Nat} {x : Int} {f : Flt} (hx : x = 98 ∨ x = 40 ∨ x = 116) (h : bel s t (p + 1) 0 = .inl f) : bod s t p x = .inl f := by
  unfold bod
  rcases hx with e | e | e <;> subst e
  · rw [if_pos rfl, h]
  · rw [if_neg (by decide), if_pos rfl, crd, h]
  · rw [if_neg (by decide), if_neg (by decide), if_pos rfl, h]
theorem bod_b {s : Nat → Int} {t p b e : Nat} (h : bel s t (p + 1) 0 = .inr (b, e)) : bod s t p 98 = .inr (0 ||| 2 ^ b, 0, 0, e) := by
  unfold bod; rw [if_pos rfl, h]
theorem bod_0 {s : Nat → Int} {t p : Nat} : bod s t p 95 = .inr (0, 0, 0, p + 1) := by
  unfold bod; rw [if_neg (by decide), if_neg (by decide), if_neg (by decide)]
theorem bod_c {s : Nat → Int} {t p m e : Nat} (h : crd s t (p + 1) = .inr (m, e)) : bod s t p 40 = .inr (m, 0, 0, e) := by
  unfold bod; rw [if_neg (by decide), if_pos rfl, h]
theorem bod_c0 {s : Nat → Int} {t p : Nat} {f : Flt} (h : crd s t (p + 1) = .inl f) : bod s t p 40 = .inl f := by
  unfold bod; rw [if_neg (by decide), if_pos rfl, h]
theorem bod_t {s : Nat → Int} {t p a e : Nat} (h : bel s t (p + 1) 0 = .inr (a, e)) : (∀ f, bel s t e (0 ||| 2 ^ a) = .inl f → bod s t p 116 = .inl f) ∧ (∀ b e2, bel s t e (0 ||| 2 ^ a) = .inr (b, e2) → bod s t p 116 = .inr ((0 ||| 2 ^ a) ||| 2 ^ b, a, b, e2)) := by
  refine ⟨fun f hf => ?_, fun b e2 hr => ?_⟩
  · unfold bod; rw [if_neg (by decide), if_neg (by decide), if_pos rfl, h]
    show (match bel s t e (0 ||| 2 ^ a) with | .inl f => _ | .inr (b, e2) => _) = _
    rw [hf]
  · unfold bod; rw [if_neg (by decide), if_neg (by decide), if_pos rfl, h]
    show (match bel s t e (0 ||| 2 ^ a) with | .inl f => _ | .inr (b, e2) => _) = _
    rw [hr]
section ITEMR
variable {n : Nat} {K : wKd} {J : wJn} {L : wLn} {R : wRf}
theorem s_X11_item (hy : Ly K R) {s : Nat → Int} {t q c tk la lat : Nat} (hT : TxR J s t) (hq : J 34 5 = q) (hqt : q < t) (hnb : nb s t q = q) (hf : J 34 7 = 0) (htk : J 34 11 = tk) (htk2 : tk ≤ 2063) (hc : J 34 10 = c) (hc2 : c ≤ 100) (hla : J 41 q = (la : Nat)) (hla2 : la ≤ 64) (hlat : J 34 15 = (lat : Nat)) (hlat2 : lat ≤ 64) (harr : ∀ i, i < c → (0 ≤ J 39 i ∧ J 39 i < tk) ∧ 0 ≤ J 40 i ∧ J 40 i < 24) : S_X11_item [.ref 34] n K (zw J) L R (fun r2 n2 K2 I2 L2 R2 => ∃ J2 : wJn, Det none n K (zw J2) L R r2 n2 K2 I2 L2 R2 ∧ RiR J J2 s t q c tk la lat) := by
  have h1 := hT.1
  have h2 := hT.2.1
  have h3 := h2.1
  have hbq := h2.bd q
  refine Sp_intro [some (.ref 34), none, none, none, none, none] rfl rfl (Nat.le_of_ble_eq_true rfl) rfl ?_
  intro Γ C
  replace C : C_X11_item Γ := C
  generalize hpost : (fun (r2 : Option Value) (n2 : Nat) (K2 : wKd) (I2 : wIn) (L2 : wLn) (R2 : wRf) => ∃ J2 : wJn, Det none n K (zw J2) L R r2 n2 K2 I2 L2 R2 ∧ RiR J J2 s t q c tk la lat) = post
  generalize hy2 : s q = y at *
  have f359 : ∀ (J3 : wJn) (k l : Int), post none n K (zw (up2 J3 34 11 (J3 34 11 + l))) L R → wp Γ 0 0 (QQ Γ post) 359 [some (.ref 34), some (.int (iI q)), some (.int (iI y)), some (.int (iI k)), some (.int (iI l)), none] [] n K (zw J3) L R := by
    intro J3 k l hP
    refine w_aload_n (pc2 := 360) C dX11_item_359 rfl rfl ?_
    refine w_dup (pc2 := 361) C dX11_item_360 rfl rfl ?_
    refine z_getI (pc2 := 364) C dX11_item_361 fl_X11_93 (by first | exact hy.k _ | assumption) rfl ?_
    refine w_iload (pc2 := 366) C dX11_item_364 rfl rfl ?_
    refine z_iadd (pc2 := 367) C dX11_item_366 rfl ?_
    refine z_putI (pc2 := 370) C dX11_item_367 fl_X11_93 (by first | exact hy.k _ | assumption) (by rfl) (by rfl) rfl ?_
    -- at 370: .return_
    exact w_ret C dX11_item_370 (by decide) (by decide) (hP)
  -- a FAULT stands
  have b268 : ∀ (J3 : wJn) (k l : Int), (R32 k ∧ R32 l) → (1 ≤ J3 34 7 ∧ J3 34 7 ≤ 4) → post none n K (zw (up2 J3 34 11 (J3 34 11 + l))) L R → wp Γ 0 0 (QQ Γ post) 268 [some (.ref 34), some (.int (iI q)), some (.int (iI y)), some (.int (iI k)), some (.int (iI l)), none] [] n K (zw J3) L R := by
    intro J3 k l hb hbad hP
    refine w_iload_n (pc2 := 269) C dX11_item_268 rfl rfl ?_
    refine w_bipush (pc2 := 271) (v := iI 116) C dX11_item_269 (by decide) rfl ?_
    -- at 271: .if_icmp .ne 50
    refine z_icmp_ne (pc2 := 274) (tgt := 321) C dX11_item_271 (by decide) rfl (by omega) (by omega) (fun g1 => ?_) (fun g1 => ?_)
    · skip
      refine w_iconst (pc2 := 322) (v := iI 0) C dX11_item_321 (by decide) rfl ?_
      refine w_istore (pc2 := 324) C dX11_item_322 rfl (by decide) rfl rfl ?_
      try dsimp only [List.set]
      -- at 324: .iload 5
      refine w_iload (pc2 := 326) C dX11_item_324 rfl rfl ?_
      refine w_iload_n (pc2 := 327) C dX11_item_326 rfl rfl ?_
      -- at 327: .if_icmp .ge 32
      refine z_icmp_ge (pc2 := 330) (tgt := 359) C dX11_item_327 (by decide) rfl (by omega) (by omega) (fun g2 => ?_) (fun g2 => ?_)
      · exact w_drop (f359 J3 k l hP) ⟨rfl, rfl, rfl, rfl, rfl, trivial⟩
      · skip
        refine w_aload_n (pc2 := 331) C dX11_item_330 rfl rfl ?_
        refine z_getI (pc2 := 334) C dX11_item_331 fl_X11_56 (by first | exact hy.k _ | assumption) rfl ?_
        -- at 334: .ifCond .ne 25
        refine z_if_ne (pc2 := 337) (tgt := 359) C dX11_item_334 (by decide) rfl (by omega) (fun g3 => ?_) (fun g3 => ?_)
        · exact w_drop (f359 J3 k l hP) ⟨rfl, rfl, rfl, rfl, rfl, trivial⟩
        · exact absurd g3 (by omega)
    · skip
      refine w_iconst (pc2 := 275) (v := iI 0) C dX11_item_274 (by decide) rfl ?_
      refine w_istore (pc2 := 277) C dX11_item_275 rfl (by decide) rfl rfl ?_
      try dsimp only [List.set]
      -- at 277: .iload 5
      refine w_iload (pc2 := 279) C dX11_item_277 rfl rfl ?_
      refine w_iload (pc2 := 281) C dX11_item_279 rfl rfl ?_
      -- at 281: .if_icmp .ge 37
      refine z_icmp_ge (pc2 := 284) (tgt := 318) C dX11_item_281 (by decide) rfl (by omega) (by omega) (fun g2 => ?_) (fun g2 => ?_)
      · skip
        refine w_goto (tgt := 359) C dX11_item_318 (by decide) ?_
        -- at 359: .aload_n 0
        exact w_drop (f359 J3 k l hP) ⟨rfl, rfl, rfl, rfl, rfl, trivial⟩
      · skip
        refine w_aload_n (pc2 := 285) C dX11_item_284 rfl rfl ?_
        refine z_getI (pc2 := 288) C dX11_item_285 fl_X11_56 (by first | exact hy.k _ | assumption) rfl ?_
        -- at 288: .ifCond .ne 30
        refine z_if_ne (pc2 := 291) (tgt := 318) C dX11_item_288 (by decide) rfl (by omega) (fun g3 => ?_) (fun g3 => ?_)
        · skip
          refine w_goto (tgt := 359) C dX11_item_318 (by decide) ?_
          -- at 359: .aload_n 0
          exact w_drop (f359 J3 k l hP) ⟨rfl, rfl, rfl, rfl, rfl, trivial⟩
        · exact absurd g3 (by omega)
  have b227 : ∀ (J3 : wJn) (k : Int), R32 k → (1 ≤ J3 34 7 ∧ J3 34 7 ≤ 4) → post none n K (zw (up2 J3 34 11 (J3 34 11 + 0))) L R → wp Γ 0 0 (QQ Γ post) 227 [some (.ref 34), some (.int (iI q)), some (.int (iI y)), some (.int (iI k)), none, none] [] n K (zw J3) L R := by
    intro J3 k hb hbad hP
    refine w_aload_n (pc2 := 228) C dX11_item_227 rfl rfl ?_
    refine z_getI (pc2 := 231) C dX11_item_228 fl_X11_56 (by first | exact hy.k _ | assumption) rfl ?_
    -- at 231: .ifCond .ne 19
    refine z_if_ne (pc2 := 234) (tgt := 250) C dX11_item_231 (by decide) rfl (by omega) (fun g1 => ?_) (fun g1 => ?_)
    · skip
      refine w_aload_n (pc2 := 251) C dX11_item_250 rfl rfl ?_
      refine z_getI (pc2 := 254) C dX11_item_251 fl_X11_56 (by first | exact hy.k _ | assumption) rfl ?_
      -- at 254: .ifCond .ne 11
      refine z_if_ne (pc2 := 257) (tgt := 265) C dX11_item_254 (by decide) rfl (by omega) (fun g2 => ?_) (fun g2 => ?_)
      · skip
        refine w_iconst (pc2 := 266) (v := iI 0) C dX11_item_265 (by decide) rfl ?_
        refine w_istore (pc2 := 268) C dX11_item_266 rfl (by decide) rfl rfl ?_
        try dsimp only [List.set]
        -- at 268: .iload_n 2
        exact b268 J3 k 0 ⟨hb, by decide⟩ hbad hP
      · exact absurd g2 (by omega)
    · exact absurd g1 (by omega)
  have b100 : ∀ (J3 : wJn) (k : Int), R32 k → (1 ≤ J3 34 7 ∧ J3 34 7 ≤ 4) → post none n K (zw (up2 J3 34 11 (J3 34 11 + 0))) L R → wp Γ 0 0 (QQ Γ post) 100 [some (.ref 34), some (.int (iI q)), some (.int (iI y)), some (.int (iI k)), none, none] [] n K (zw J3) L R := by
    intro J3 k hb hbad hP
    refine w_aload_n (pc2 := 101) C dX11_item_100 rfl rfl ?_
    refine z_getI (pc2 := 104) C dX11_item_101 fl_X11_56 (by first | exact hy.k _ | assumption) rfl ?_
    -- at 104: .ifCond .ne 123
    refine z_if_ne (pc2 := 107) (tgt := 227) C dX11_item_104 (by decide) rfl (by omega) (fun g1 => ?_) (fun g1 => ?_)
    · exact b227 J3 k hb hbad hP
    · exact absurd g1 (by omega)
  have fup : ∀ (J3 : wJn) (f : Flt) (x : Int), J3 34 7 = f.1 → J3 34 8 = f.2 → (1 ≤ f.1 ∧ f.1 ≤ 4) → (∀ a, a ≠ 34 → a ≠ 39 → a ≠ 40 → a ≠ 41 → a ≠ 44 → J3 a = J a) → J3 34 4 = J 34 4 → FltR J (up2 J3 34 11 x) f := by
    intro J3 f x y1 y2 y3 y4 y5
    exact ⟨by rw [up2_n _ _ _ _ (by omega)]; exact y1, by rw [up2_n _ _ _ _ (by omega)]; exact y2, y3, fun a a1 a2 a3 a4 _ _ a7 => by rw [up2_row a1]; exact y4 a a1 a2 a3 a4 a7, by rw [up2_n _ _ _ _ (by omega)]; exact y5⟩
  have pbad : ∀ (J3 : wJn) (f : Flt), IsI y → tk ≤ 1999 → itm s t q y = .inl f → FltR J J3 f → post none n K (zw J3) L R := by
    intro J3 f hi ht hit hF
    rw [← hpost]
    refine ⟨J3, DetI rfl rfl, fun hni => absurd hi (by rw [hy2] at hni; exact hni), fun _ hgt => absurd hgt (by omega), fun _ _ => ⟨fun f2 hf2 => ?_, fun m a b v e he => ?_⟩⟩
    · rw [hy2, hit] at hf2
      injection hf2 with hf2
      subst hf2
      exact hF
    · rw [hy2, hit] at he
      cases he
  -- one BELL more
  have one : ∀ (J3 : wJn) (bs : Nat → Nat) (k p : Nat), FrI J J3 → J3 34 7 = 0 → J3 34 8 = J 34 8 → J3 34 5 = (p : Nat) → p ≤ t → (1 ≤ k ∧ k ≤ 4) → (∀ i, i < k → J3 44 i = (bs i : Nat)) → DsB bs k →
      (∀ f, bel s t p (orF bs k) = .inl f → ∀ J4 : wJn, FltR J (up2 J4 34 11 (J4 34 11 + 0)) f → post none n K (zw (up2 J4 34 11 (J4 34 11 + 0))) L R) →
      (∀ b e, bel s t p (orF bs k) = .inr (b, e) → ∀ (J4 : wJn) (bs2 : Nat → Nat), FrI J J4 → J4 34 7 = 0 → J4 34 8 = J 34 8 → J4 34 5 = (e : Nat) → (∀ i, i < k → bs2 i = bs i) → bs2 k = b → (∀ i, i < k + 1 → J4 44 i = (bs2 i : Nat)) → DsB bs2 (k + 1) → wp Γ 0 0 (QQ Γ post) 100 [some (.ref 34), some (.int (iI q)), some (.int (iI y)), some (.int (iI ((k + 1 : Nat) : Int))), none, none] [] n K (zw J4) L R) →
      wp Γ 0 0 (QQ Γ post) 133 [some (.ref 34), some (.int (iI q)), some (.int (iI y)), some (.int (iI k)), none, none] [] n K (zw J3) L R := by
    intro J3 bs k p hF c7 c8 c5 hpt hk h44 hds kf ko
    obtain ⟨f0, fb⟩ := hF
    have hT3 : TxR J3 s t := hT.rows (fb 6 (by decide) (by decide) (by decide) (by decide)) (f0 38 (by decide) (by decide))
    have hpk := dsb_popc hds
    refine w_aload_n (pc2 := 134) C dX11_item_133 rfl rfl ?_
    refine w_iconst (pc2 := 135) (v := iI 0) C dX11_item_134 (by decide) rfl ?_
    refine w_bipush (pc2 := 137) (v := iI 23) C dX11_item_135 (by decide) rfl ?_
    -- at 137: .invokevirtual 83
    refine w_gV (pc2 := 140)  C dX11_item_137 mb_X11_83 mv_X11_number (s_X11_number hy (by decide) (by decide) hT3 c5 hpt c7) (by first | exact hy.k _ | assumption) rfl (by decide) rfl rfl (Nat.le_of_ble_eq_true rfl) ⟨by decide, by decide⟩ ⟨rfl, rfl⟩ ⟨by decide, by decide⟩ rfl ?_
    rintro r2 n2 K2 I2 L2 R2 ⟨J4, v, hD, hN⟩
    obtain ⟨d1, d2, d3, d4, d5, d6⟩ := hD
    replace d2 := d2.symm
    replace d3 := d3.symm
    replace d5 := d5.symm
    replace d6 := d6.symm
    subst d1
    subst d2
    subst d3
    subst d4
    subst d5
    subst d6
    obtain ⟨n1, n2, n3, n4, n5, n6⟩ := hN
    have g0 : ∀ a, a ≠ 34 → a ≠ 44 → J4 a = J a := fun a a1 a2 => by rw [n1 a a1]; exact f0 a a1 a2
    have gb : ∀ b, b ≠ 5 → b ≠ 7 → b ≠ 8 → b ≠ 9 → J4 34 b = J 34 b := fun b b5 b7 b8 b9 => by rw [n2 b b5 b7 b8 b9]; exact fb b b5 b7 b8 b9
    have g44 : ∀ i, i < k → J4 44 i = (bs i : Nat) := fun i hi => by rw [n1 44 (by decide)]; exact h44 i hi
    -- a FAULT, at 166
    have bd166 : ∀ (J5 : wJn) (i : Nat) (f : Flt), i ≤ k → bel s t p (orF bs k) = .inl f → J5 34 7 = f.1 → J5 34 8 = f.2 → (1 ≤ f.1 ∧ f.1 ≤ 4) → (∀ a, a ≠ 34 → a ≠ 44 → J5 a = J a) → J5 34 4 = J 34 4 → wp Γ 0 0 (QQ Γ post) 166 [some (.ref 34), some (.int (iI q)), some (.int (iI y)), some (.int (iI k)), some (.int (iI v)), some (.int (iI i))] [] n K (zw J5) L R := by
      intro J5 i f hi hbl y1 y2 y3 y4 y5
      have hP := kf f hbl J5 (fup J5 f _ y1 y2 y3 (fun a a1 _ _ _ a5 => y4 a a1 a5) y5)
      have f206 : wp Γ 0 0 (QQ Γ post) 206 [some (.ref 34), some (.int (iI q)), some (.int (iI y)), some (.int (iI k)), none, none] [] n K (zw J5) L R := by
        refine w_aload_n (pc2 := 207) C dX11_item_206 rfl rfl ?_
        refine z_getI (pc2 := 210) C dX11_item_207 fl_X11_56 (by first | exact hy.k _ | assumption) rfl ?_
        -- at 210: .ifCond .ne 14
        refine z_if_ne (pc2 := 213) (tgt := 224) C dX11_item_210 (by decide) rfl (by omega) (fun g3 => ?_) (fun g3 => ?_)
        · skip
          refine w_goto (tgt := 100) C dX11_item_224 (by decide) ?_
          -- at 100: .aload_n 0
          exact b100 J5 k (by omega) (by omega) hP
        · exact absurd g3 (by omega)
      refine w_iload (pc2 := 168) C dX11_item_166 rfl rfl ?_
      refine w_iload_n (pc2 := 169) C dX11_item_168 rfl rfl ?_
      -- at 169: .if_icmp .ge 37
      refine z_icmp_ge (pc2 := 172) (tgt := 206) C dX11_item_169 (by decide) rfl (by omega) (by omega) (fun g1 => ?_) (fun g1 => ?_)
      · exact w_drop f206 ⟨rfl, rfl, rfl, rfl, trivial⟩
      · skip
        refine w_aload_n (pc2 := 173) C dX11_item_172 rfl rfl ?_
        refine z_getI (pc2 := 176) C dX11_item_173 fl_X11_56 (by first | exact hy.k _ | assumption) rfl ?_
        -- at 176: .ifCond .ne 30
        refine z_if_ne (pc2 := 179) (tgt := 206) C dX11_item_176 (by decide) rfl (by omega) (fun g2 => ?_) (fun g2 => ?_)
        · exact w_drop f206 ⟨rfl, rfl, rfl, rfl, trivial⟩
        · exact absurd g2 (by omega)
    refine w_istore (pc2 := 142) C dX11_item_140 rfl (by decide) rfl rfl ?_
    try dsimp only [List.set]
    refine w_aload_n (pc2 := 143) C dX11_item_142 rfl rfl ?_
    refine z_getI (pc2 := 146) C dX11_item_143 fl_X11_56 (by first | exact hy.k _ | assumption) rfl ?_
    -- at 146: .ifCond .ne 17
    rcases hn : num s t p 0 23 with f | ⟨u, q1, e1⟩
    · obtain ⟨k1, k2, k3⟩ := n5 f hn
      have hbl := bel_f (m := orF bs k) hn
      refine z_if_ne (pc2 := 149) (tgt := 163) C dX11_item_146 (by decide) rfl (by omega) (fun g1 => ?_) (fun g1 => ?_)
      · skip
        refine w_iconst (pc2 := 164) (v := iI 0) C dX11_item_163 (by decide) rfl ?_
        refine w_istore (pc2 := 166) C dX11_item_164 rfl (by decide) rfl rfl ?_
        try dsimp only [List.set]
        -- at 166: .iload 5
        exact bd166 J4 0 f (by omega) hbl k1 k2 (by omega) g0 (gb 4 (by decide) (by decide) (by decide) (by decide))
      · exact absurd g1 (by omega)
    · obtain ⟨k1, k2, k3, k4, k5⟩ := n6 u q1 e1 hn
      obtain ⟨o1, o2, o3⟩ := num_ok hn
      subst k5
      have hfail : ∀ J5 : wJn, J5 = up2 (up2 J4 34 7 2) 34 8 (q1 : Int) → J5 34 7 = 2 ∧ J5 34 8 = (q1 : Nat) ∧ (∀ a, a ≠ 34 → a ≠ 44 → J5 a = J a) ∧ J5 34 4 = J 34 4 := by
        intro J5 e5
        subst e5
        exact ⟨by rw [up2_n _ _ _ _ (by omega), up2_s], by rw [up2_s], fun a a1 a2 => by rw [up2_row a1, up2_row a1]; exact g0 a a1 a2, by rw [up2_n _ _ _ _ (by omega), up2_n _ _ _ _ (by omega)]; exact gb 4 (by decide) (by decide) (by decide) (by decide)⟩
      refine z_if_ne (pc2 := 149) (tgt := 163) C dX11_item_146 (by decide) rfl (by omega) (fun g1 => ?_) (fun g1 => ?_)
      · exact absurd k1 g1
      · skip
        refine w_iload_n (pc2 := 150) C dX11_item_149 rfl rfl ?_
        refine w_iconst (pc2 := 151) (v := iI 4) C dX11_item_150 (by decide) rfl ?_
        -- at 151: .if_icmp .ne 12
        refine z_icmp_ne (pc2 := 154) (tgt := 163) C dX11_item_151 (by decide) rfl (by omega) (by omega) (fun g2 => ?_) (fun g2 => ?_)
        · -- look for it among those told
          have key : ∀ (d i : Nat), i + d = k → (∀ j, j < i → ¬ (bs j : Int) = v) → wp Γ 0 0 (QQ Γ post) 166 [some (.ref 34), some (.int (iI q)), some (.int (iI y)), some (.int (iI k)), some (.int (iI v)), some (.int (iI i))] [] n K (zw J4) L R := by
            intro d
            induction d with
            | zero =>
              intro i hi hno
              have ei : i = k := by omega
              subst ei
              have htb : (orF bs i).testBit v.toNat = false := by
                rcases hh : (orF bs i).testBit v.toNat with _ | _
                · rfl
                · obtain ⟨j, j1, j2⟩ := (orF_bit bs v.toNat i).mp hh
                  exact absurd (by omega : (bs j : Int) = v) (hno j j1)
              have hbl := bel_h hn (m := orF bs i) (by
                rw [htb]
                rintro (z | z)
                · cases z
                · omega)
              refine w_iload (pc2 := 168) C dX11_item_166 rfl rfl ?_
              refine w_iload_n (pc2 := 169) C dX11_item_168 rfl rfl ?_
              -- at 169: .if_icmp .ge 37
              refine z_icmp_ge (pc2 := 172) (tgt := 206) C dX11_item_169 (by decide) rfl (by omega) (by omega) (fun g3 => ?_) (fun g3 => ?_)
              · skip
                refine w_aload_n (pc2 := 207) C dX11_item_206 rfl rfl ?_
                refine z_getI (pc2 := 210) C dX11_item_207 fl_X11_56 (by first | exact hy.k _ | assumption) rfl ?_
                -- at 210: .ifCond .ne 14
                refine z_if_ne (pc2 := 213) (tgt := 224) C dX11_item_210 (by decide) rfl (by omega) (fun g4 => ?_) (fun g4 => ?_)
                · exact absurd k1 g4
                · skip
                  refine w_aload_n (pc2 := 214) C dX11_item_213 rfl rfl ?_
                  refine w_getR (pc2 := 217) C dX11_item_214 fl_X11_39 (by first | exact hy.k _ | assumption) (by first | exact hy.r _ _ | assumption) rfl ?_
                  refine w_iload_n (pc2 := 218) C dX11_item_217 rfl rfl ?_
                  refine w_iload (pc2 := 220) C dX11_item_218 rfl rfl ?_
                  -- at 220: .iastore
                  refine z_iast (pc2 := 221) (j := i) C dX11_item_220 (by first | exact hy.k _ | assumption) (by omega) (by omega) (by decide) rfl ?_
                  refine w_iinc (pc2 := 224) C dX11_item_221 rfl (iI_add _ _) rfl (by decide) rfl rfl ?_
                  try dsimp only [List.set]
                  refine w_goto (tgt := 100) C dX11_item_224 (by decide) ?_
                  -- at 100: .aload_n 0
                  have fin := ko v.toNat e1 hbl (up2 J4 44 i v) (fun j => if j = i then v.toNat else bs j) ⟨fun a a1 a2 => by rw [up2_row a2]; exact g0 a a1 a2, fun b b5 b7 b8 b9 => by rw [up2_row (by decide)]; exact gb b b5 b7 b8 b9⟩ (by rw [up2_row (by decide)]; exact k1) (by rw [up2_row (by decide), k2]; exact c8) (by rw [up2_row (by decide)]; exact k3) (fun j hj => by rw [if_neg (by omega)]) (if_pos rfl) (fun j hj => by
                    by_cases ej : j = i
                    · subst ej; rw [up2_s, if_pos rfl]; omega
                    · rw [up2_n _ _ _ _ (by omega), if_neg ej]; exact g44 j (by omega)) (fun j hj => by
                    have ec : ∀ j, j ≤ i → orF (fun j => if j = i then v.toNat else bs j) j = orF bs j := fun j hj => orF_cong j (fun x hx => by rw [if_neg (by omega)])
                    by_cases ej : j = i
                    · subst ej
                      rw [ec j (Nat.le_refl j)]
                      simp only [if_true]
                      exact ⟨by omega, htb⟩
                    · rw [ec j (by omega)]
                      simp only [if_neg ej]
                      exact hds j (by omega))
                  exact w_drop fin ⟨rfl, rfl, rfl, rfl, trivial⟩
              · exact absurd g3 (by omega)
            | succ d ih =>
              intro i hi hno
              have hbi := hds i (by omega)
              refine w_iload (pc2 := 168) C dX11_item_166 rfl rfl ?_
              refine w_iload_n (pc2 := 169) C dX11_item_168 rfl rfl ?_
              -- at 169: .if_icmp .ge 37
              refine z_icmp_ge (pc2 := 172) (tgt := 206) C dX11_item_169 (by decide) rfl (by omega) (by omega) (fun g3 => ?_) (fun g3 => ?_)
              · exact absurd g3 (by omega)
              · skip
                refine w_aload_n (pc2 := 173) C dX11_item_172 rfl rfl ?_
                refine z_getI (pc2 := 176) C dX11_item_173 fl_X11_56 (by first | exact hy.k _ | assumption) rfl ?_
                -- at 176: .ifCond .ne 30
                refine z_if_ne (pc2 := 179) (tgt := 206) C dX11_item_176 (by decide) rfl (by omega) (fun g4 => ?_) (fun g4 => ?_)
                · exact absurd k1 g4
                · skip
                  refine w_aload_n (pc2 := 180) C dX11_item_179 rfl rfl ?_
                  refine w_getR (pc2 := 183) C dX11_item_180 fl_X11_39 (by first | exact hy.k _ | assumption) (by first | exact hy.r _ _ | assumption) rfl ?_
                  refine w_iload (pc2 := 185) C dX11_item_183 rfl rfl ?_
                  -- at 185: .iaload
                  refine z_iald (pc2 := 186) (j := i) C dX11_item_185 (by first | exact hy.k _ | assumption) (by omega) (by omega) (by decide) rfl ?_
                  rw [g44 i (by omega)]
                  refine w_iload (pc2 := 188) C dX11_item_186 rfl rfl ?_
                  -- at 188: .if_icmp .ne 12
                  refine z_icmp_ne (pc2 := 191) (tgt := 200) C dX11_item_188 (by decide) rfl (by omega) (by omega) (fun g5 => ?_) (fun g5 => ?_)
                  · skip
                    refine w_iinc (pc2 := 203) C dX11_item_200 rfl (iI_add _ _) rfl (by decide) rfl rfl ?_
                    try dsimp only [List.set]
                    refine w_goto (tgt := 166) C dX11_item_203 (by decide) ?_
                    -- at 166: .iload 5
                    exact ih (i + 1) (by omega) (fun j hj => by
                      by_cases ej : j = i
                      · subst ej; exact g5
                      · exact hno j (by omega))
                  · have hbl := bel_g hn (m := orF bs k) (Or.inl ((orF_bit bs v.toNat k).mpr ⟨i, by omega, by omega⟩))
                    obtain ⟨z1, z2, z3, z4⟩ := hfail _ rfl
                    refine w_aload_n (pc2 := 192) C dX11_item_191 rfl rfl ?_
                    refine w_iconst (pc2 := 193) (v := iI 2) C dX11_item_192 (by decide) rfl ?_
                    refine w_aload_n (pc2 := 194) C dX11_item_193 rfl rfl ?_
                    refine z_getI (pc2 := 197) C dX11_item_194 fl_X11_76 (by first | exact hy.k _ | assumption) rfl ?_
                    -- at 197: .invokevirtual 72
                    rw [k4]
                    refine w_cVv (pc2 := 200)  C dX11_item_197 mb_X11_72 mv_X11_fail (s_X11_fail hy k1) (by first | exact hy.k _ | assumption) rfl (by decide) rfl rfl (Nat.le_of_ble_eq_true rfl) ⟨by decide, by decide⟩ ⟨rfl, rfl⟩ ⟨by decide, by decide⟩ rfl ?_
                    refine w_iinc (pc2 := 203) C dX11_item_200 rfl (iI_add _ _) rfl (by decide) rfl rfl ?_
                    try dsimp only [List.set]
                    refine w_goto (tgt := 166) C dX11_item_203 (by decide) ?_
                    -- at 166: .iload 5
                    exact bd166 _ (i + 1) _ (by omega) hbl z1 z2 (by simp) z3 z4
          refine w_iconst (pc2 := 164) (v := iI 0) C dX11_item_163 (by decide) rfl ?_
          refine w_istore (pc2 := 166) C dX11_item_164 rfl (by decide) rfl rfl ?_
          try dsimp only [List.set]
          -- at 166: .iload 5
          exact key k 0 (by omega) (fun j hj => absurd hj (by omega))
        · have hbl := bel_g hn (m := orF bs k) (Or.inr (by omega))
          obtain ⟨z1, z2, z3, z4⟩ := hfail _ rfl
          refine w_aload_n (pc2 := 155) C dX11_item_154 rfl rfl ?_
          refine w_iconst (pc2 := 156) (v := iI 2) C dX11_item_155 (by decide) rfl ?_
          refine w_aload_n (pc2 := 157) C dX11_item_156 rfl rfl ?_
          refine z_getI (pc2 := 160) C dX11_item_157 fl_X11_76 (by first | exact hy.k _ | assumption) rfl ?_
          -- at 160: .invokevirtual 72
          rw [k4]
          refine w_cVv (pc2 := 163)  C dX11_item_160 mb_X11_72 mv_X11_fail (s_X11_fail hy k1) (by first | exact hy.k _ | assumption) rfl (by decide) rfl rfl (Nat.le_of_ble_eq_true rfl) ⟨by decide, by decide⟩ ⟨rfl, rfl⟩ ⟨by decide, by decide⟩ rfl ?_
          refine w_iconst (pc2 := 164) (v := iI 0) C dX11_item_163 (by decide) rfl ?_
          refine w_istore (pc2 := 166) C dX11_item_164 rfl (by decide) rfl rfl ?_
          try dsimp only [List.set]
          -- at 166: .iload 5
          exact bd166 _ 0 _ (by omega) hbl z1 z2 (by simp) z3 z4
  -- all BELLS are there
  have ok227 : ∀ (J3 : wJn) (bs : Nat → Nat) (k m a b e p : Nat), IsI y → tk ≤ 1999 → FrI J J3 → J3 34 7 = 0 → J3 34 8 = J 34 8 → J3 34 5 = (p : Nat) → ((y = 40 ∧ e = p + 1) ∨ (¬ y = 40 ∧ e = p)) → e ≤ t → bod s t q y = .inr (m, a, b, e) → k ≤ 4 → (∀ i, i < k → J3 44 i = (bs i : Nat)) → DsB bs k → m = orF bs k → (y = 116 → k = 2 ∧ bs 0 = a ∧ bs 1 = b) → wp Γ 0 0 (QQ Γ post) 227 [some (.ref 34), some (.int (iI q)), some (.int (iI y)), some (.int (iI k)), none, none] [] n K (zw J3) L R := by
    intro J3 bs k m a b e p hI ht hF c7 c8 c5 he het hbd hk4 h44 hds hm htr
    obtain ⟨f0, fb⟩ := hF
    have hpk := dsb_popc hds
    have go : ∀ J4 : wJn, (∀ a, a ≠ 34 → J4 a = J3 a) → (∀ b, b ≠ 5 → J4 34 b = J3 34 b) → J4 34 5 = (e : Nat) → wp Γ 0 0 (QQ Γ post) 250 [some (.ref 34), some (.int (iI q)), some (.int (iI y)), some (.int (iI k)), none, none] [] n K (zw J4) L R := by
      intro J4 d0 db d5
      have hT4 : TxR J4 s t := hT.rows (by rw [db 6 (by decide)]; exact fb 6 (by decide) (by decide) (by decide) (by decide)) (by rw [d0 38 (by decide)]; exact f0 38 (by decide) (by decide))
      have d7 : J4 34 7 = 0 := by rw [db 7 (by decide)]; exact c7
      refine w_aload_n (pc2 := 251) C dX11_item_250 rfl rfl ?_
      refine z_getI (pc2 := 254) C dX11_item_251 fl_X11_56 (by first | exact hy.k _ | assumption) rfl ?_
      -- at 254: .ifCond .ne 11
      refine z_if_ne (pc2 := 257) (tgt := 265) C dX11_item_254 (by decide) rfl (by omega) (fun g1 => ?_) (fun g1 => ?_)
      · exact absurd d7 g1
      · skip
        refine w_aload_n (pc2 := 258) C dX11_item_257 rfl rfl ?_
        refine w_iload_n (pc2 := 259) C dX11_item_258 rfl rfl ?_
        -- at 259: .invokevirtual 96
        refine w_gV (pc2 := 262)  C dX11_item_259 mb_X11_96 mv_X11_length (s_X11_length hy hT4 d5 het d7 (q := q) (la := la) (lat := lat) (by omega) (by rw [d0 41 (by decide), f0 41 (by decide) (by decide)]; exact hla) hla2 (by rw [db 15 (by decide), fb 15 (by decide) (by decide) (by decide) (by decide)]; exact hlat) hlat2) (by first | exact hy.k _ | assumption) rfl (by decide) rfl rfl (Nat.le_of_ble_eq_true rfl) ⟨by decide, by decide⟩ ⟨rfl, rfl⟩ ⟨by decide, by decide⟩ rfl ?_
        rintro r2 n2 K2 I2 L2 R2 ⟨J5, v, hD, hL⟩
        obtain ⟨d1, d2, d3, d4, d5, d6⟩ := hD
        replace d2 := d2.symm
        replace d3 := d3.symm
        replace d5 := d5.symm
        replace d6 := d6.symm
        subst d1
        subst d2
        subst d3
        subst d4
        subst d5
        subst d6
        obtain ⟨l1, l2, l3, l4, l5⟩ := hL
        have j0 : ∀ a, a ≠ 34 → a ≠ 41 → a ≠ 44 → J5 a = J a := fun a a1 a2 a3 => by rw [l1 a a1 a2, d0 a a1]; exact f0 a a1 a3
        have jb : ∀ b, b ≠ 5 → b ≠ 7 → b ≠ 8 → b ≠ 9 → b ≠ 15 → J5 34 b = J 34 b := fun b b5 b7 b8 b9 b15 => by rw [l2 b b5 b7 b8 b9 b15, db b b5]; exact fb b b5 b7 b8 b9
        have j44 : ∀ i, i < k → J5 44 i = (bs i : Nat) := fun i hi => by rw [l1 44 (by decide) (by decide), d0 44 (by decide)]; exact h44 i hi
        have j11 : J5 34 11 = (tk : Nat) := by rw [jb 11 (by decide) (by decide) (by decide) (by decide) (by decide)]; exact htk
        have j10 : J5 34 10 = (c : Nat) := by rw [jb 10 (by decide) (by decide) (by decide) (by decide) (by decide)]; exact hc
        refine w_goto (tgt := 266) C dX11_item_262 (by decide) ?_
        refine w_istore (pc2 := 268) C dX11_item_266 rfl (by decide) rfl rfl ?_
        try dsimp only [List.set]
        -- at 268: .iload_n 2
        rcases hln : lng s t e with f | ⟨u, e2⟩
        · obtain ⟨w1, w2, w3⟩ := l4 f hln
          exact b268 J5 k v ⟨by omega, by omega⟩ (by omega) (pbad _ f hI ht (itm_g hbd hln) (fup J5 f _ w1 w2 (by omega) (fun a a1 _ _ a4 a5 => j0 a a1 a4 a5) (jb 4 (by decide) (by decide) (by decide) (by decide) (by decide))))
        · obtain ⟨w7, w8, w5, wv, w15, w41, w41b⟩ := l5 u e2 hln
          have hit := itm_h hbd hln
          subst wv
          have w8b : J5 34 8 = J 34 8 := by rw [w8, db 8 (by decide)]; exact c8
          generalize hl : rLen u la lat = l at *
          have hpok : ∀ J6 : wJn, c + addOf y m l ≤ 100 → PlR J5 J6 c (addOf y m l) (ftI y tk) (fbI y m a b) → post none n K (zw (up2 J6 34 11 (J6 34 11 + (l : Nat)))) L R := by
            intro J6 hle hP
            obtain ⟨p1, p2, p3, p4, p5⟩ := hP
            rw [← hpost]
            refine ⟨_, DetI rfl rfl, fun hni => absurd hI (by rw [hy2] at hni; exact hni), fun _ hgt => absurd hgt (by omega), fun _ _ => ⟨fun f2 hf2 => ?_, fun m' a' b' v' e' he' => ?_⟩⟩
            · rw [hy2, hit] at hf2; cases hf2
            · rw [hy2, hit] at he'
              injection he' with he'
              injection he' with z1 he'
              injection he' with z2 he'
              injection he' with z3 he'
              injection he' with z4 z5
              subst z1 z2 z3 z4 z5
              rw [hy2, hl]
              refine ⟨fun hgt => absurd hgt (by omega), fun _ => ?_⟩
              have q7 := p2 7 (by decide)
              refine ⟨by rw [up2_n _ _ _ _ (by omega), q7]; exact w7, by rw [up2_n _ _ _ _ (by omega), p2 5 (by decide)]; exact w5, by rw [up2_s, p2 11 (by decide), j11]; omega, by rw [up2_n _ _ _ _ (by omega)]; exact p3, by rw [up2_n _ _ _ _ (by omega), p2 15 (by decide)]; exact w15, fun b hb => ?_, fun a a1 a2 a3 a4 a5 => by rw [up2_row a1, p1 a a1 a2 a3]; exact j0 a a1 a4 a5, fun i hi => ?_, fun i hi => ?_, by rw [up2_row (by decide), p1 41 (by decide) (by decide) (by decide)]; exact w41, fun i hi => ?_⟩
              · rw [up2_n _ _ _ _ (by omega), p2 b (by omega)]
                by_cases e8 : b = 8
                · subst e8; exact w8b
                · exact jb b (by omega) (by omega) e8 (by omega) (by omega)
              · have := p4 i hi
                rw [up2_row (by decide), up2_row (by decide), this.1, this.2, j0 39 (by decide) (by decide) (by decide), j0 40 (by decide) (by decide) (by decide)]
                exact ⟨rfl, rfl⟩
              · rw [up2_row (by decide), up2_row (by decide)]; exact p5 i hi
              · rw [up2_row (by decide), p1 41 (by decide) (by decide) (by decide), w41b i hi, d0 41 (by decide), f0 41 (by decide) (by decide)]
          have hpno : ∀ J6 : wJn, 100 < c + addOf y m l → (∀ a, a ≠ 34 → a ≠ 39 → a ≠ 40 → J6 a = J5 a) → J6 34 4 = J5 34 4 → J6 34 7 = 4 → J6 34 8 = (q : Nat) → post none n K (zw (up2 J6 34 11 (J6 34 11 + (l : Nat)))) L R := by
            intro J6 hgt p1 p4 p7 p8
            have hFl : FltR J (up2 J6 34 11 (J6 34 11 + (l : Nat))) (4, q) := fup J6 (4, q) _ p7 p8 (by simp) (fun a a1 a2 a3 a4 a5 => by rw [p1 a a1 a2 a3]; exact j0 a a1 a4 a5) (by rw [p4]; exact jb 4 (by decide) (by decide) (by decide) (by decide) (by decide))
            rw [← hpost]
            refine ⟨_, DetI rfl rfl, fun hni => absurd hI (by rw [hy2] at hni; exact hni), fun _ hgt => absurd hgt (by omega), fun _ _ => ⟨fun f2 hf2 => ?_, fun m' a' b' v' e' he' => ?_⟩⟩
            · rw [hy2, hit] at hf2; cases hf2
            · rw [hy2, hit] at he'
              injection he' with he'
              injection he' with z1 he'
              injection he' with z2 he'
              injection he' with z3 he'
              injection he' with z4 z5
              subst z1 z2 z3 z4 z5
              rw [hy2, hl]
              exact ⟨fun _ => hFl, fun hle => absurd hgt (by omega)⟩
          have bd277 : ∀ (J7 : wJn) (k3 : Nat), J7 34 7 = 4 → k3 ≤ 2000 → post none n K (zw (up2 J7 34 11 (J7 34 11 + (l : Nat)))) L R → wp Γ 0 0 (QQ Γ post) 277 [some (.ref 34), some (.int (iI q)), some (.int (iI y)), some (.int (iI k)), some (.int (iI (l : Nat))), some (.int (iI k3))] [] n K (zw J7) L R := by
            intro J7 k3 x7 x3 hP
            refine w_iload (pc2 := 279) C dX11_item_277 rfl rfl ?_
            refine w_iload (pc2 := 281) C dX11_item_279 rfl rfl ?_
            -- at 281: .if_icmp .ge 37
            refine z_icmp_ge (pc2 := 284) (tgt := 318) C dX11_item_281 (by decide) rfl (by omega) (by omega) (fun g2 => ?_) (fun g2 => ?_)
            · skip
              refine w_goto (tgt := 359) C dX11_item_318 (by decide) ?_
              -- at 359: .aload_n 0
              exact w_drop (f359 J7 k _ hP) ⟨rfl, rfl, rfl, rfl, rfl, trivial⟩
            · skip
              refine w_aload_n (pc2 := 285) C dX11_item_284 rfl rfl ?_
              refine z_getI (pc2 := 288) C dX11_item_285 fl_X11_56 (by first | exact hy.k _ | assumption) rfl ?_
              -- at 288: .ifCond .ne 30
              refine z_if_ne (pc2 := 291) (tgt := 318) C dX11_item_288 (by decide) rfl (by omega) (fun g3 => ?_) (fun g3 => ?_)
              · skip
                refine w_goto (tgt := 359) C dX11_item_318 (by decide) ?_
                -- at 359: .aload_n 0
                exact w_drop (f359 J7 k _ hP) ⟨rfl, rfl, rfl, rfl, rfl, trivial⟩
              · exact absurd g3 (by omega)
          have bd324 : ∀ (J7 : wJn) (k3 : Nat), J7 34 7 = 4 → k3 ≤ 2000 → post none n K (zw (up2 J7 34 11 (J7 34 11 + (l : Nat)))) L R → wp Γ 0 0 (QQ Γ post) 324 [some (.ref 34), some (.int (iI q)), some (.int (iI y)), some (.int (iI k)), some (.int (iI (l : Nat))), some (.int (iI k3))] [] n K (zw J7) L R := by
            intro J7 k3 x7 x3 hP
            refine w_iload (pc2 := 326) C dX11_item_324 rfl rfl ?_
            refine w_iload_n (pc2 := 327) C dX11_item_326 rfl rfl ?_
            -- at 327: .if_icmp .ge 32
            refine z_icmp_ge (pc2 := 330) (tgt := 359) C dX11_item_327 (by decide) rfl (by omega) (by omega) (fun g2 => ?_) (fun g2 => ?_)
            · exact w_drop (f359 J7 k _ hP) ⟨rfl, rfl, rfl, rfl, rfl, trivial⟩
            · skip
              refine w_aload_n (pc2 := 331) C dX11_item_330 rfl rfl ?_
              refine z_getI (pc2 := 334) C dX11_item_331 fl_X11_56 (by first | exact hy.k _ | assumption) rfl ?_
              -- at 334: .ifCond .ne 25
              refine z_if_ne (pc2 := 337) (tgt := 359) C dX11_item_334 (by decide) rfl (by omega) (fun g3 => ?_) (fun g3 => ?_)
              · exact w_drop (f359 J7 k _ hP) ⟨rfl, rfl, rfl, rfl, rfl, trivial⟩
              · exact absurd g3 (by omega)
          have lp1 : y = 116 → ∀ (d k2 : Nat) (J6 : wJn), k2 + d = l → c + k2 ≤ 100 → PlR J5 J6 c k2 (ftI y tk) (fbI y m a b) → wp Γ 0 0 (QQ Γ post) 277 [some (.ref 34), some (.int (iI q)), some (.int (iI y)), some (.int (iI k)), some (.int (iI (l : Nat))), some (.int (iI k2))] [] n K (zw J6) L R := by
            intro hy1 d
            have hadd : addOf y m l = l := if_pos hy1
            obtain ⟨t1, t2, t3⟩ := htr hy1
            have hfb : ∀ i, ((bs (i % 2) : Nat) : Int) = fbI y m a b i := by
              intro i
              unfold fbI
              rw [if_pos hy1]
              by_cases e : i % 2 = 0
              · rw [if_pos e, e, t2]
              · rw [if_neg e, show i % 2 = 1 by omega, t3]
            have hft : ∀ i : Nat, ((tk : Int) + (i : Int)) = ftI y tk i := fun i => by unfold ftI; rw [if_pos hy1]
            induction d with
            | zero =>
              intro k2 J6 hk2 hcl hP
              refine w_iload (pc2 := 279) C dX11_item_277 rfl rfl ?_
              refine w_iload (pc2 := 281) C dX11_item_279 rfl rfl ?_
              -- at 281: .if_icmp .ge 37
              refine z_icmp_ge (pc2 := 284) (tgt := 318) C dX11_item_281 (by decide) rfl (by omega) (by omega) (fun g2 => ?_) (fun g2 => ?_)
              · skip
                refine w_goto (tgt := 359) C dX11_item_318 (by decide) ?_
                -- at 359: .aload_n 0
                exact w_drop (f359 J6 k _ (hpok J6 (by omega) (by rw [hadd, ← show k2 = l by omega]; exact hP))) ⟨rfl, rfl, rfl, rfl, rfl, trivial⟩
              · exact absurd g2 (by omega)
            | succ d ih =>
              intro k2 J6 hk2 hcl hP
              obtain ⟨p1, p2, p3, p4, p5⟩ := id hP
              have e7 : J6 34 7 = 0 := by rw [p2 7 (by decide)]; exact w7
              have e11 : J6 34 11 = (tk : Nat) := by rw [p2 11 (by decide)]; exact j11
              have e44 : J6 44 (k2 % 2) = (bs (k2 % 2) : Nat) := by rw [p1 44 (by decide) (by decide) (by decide)]; exact j44 _ (by omega)
              have hb24 := (hds (k2 % 2) (by omega)).1
              refine w_iload (pc2 := 279) C dX11_item_277 rfl rfl ?_
              refine w_iload (pc2 := 281) C dX11_item_279 rfl rfl ?_
              -- at 281: .if_icmp .ge 37
              refine z_icmp_ge (pc2 := 284) (tgt := 318) C dX11_item_281 (by decide) rfl (by omega) (by omega) (fun g2 => ?_) (fun g2 => ?_)
              · exact absurd g2 (by omega)
              · skip
                refine w_aload_n (pc2 := 285) C dX11_item_284 rfl rfl ?_
                refine z_getI (pc2 := 288) C dX11_item_285 fl_X11_56 (by first | exact hy.k _ | assumption) rfl ?_
                -- at 288: .ifCond .ne 30
                refine z_if_ne (pc2 := 291) (tgt := 318) C dX11_item_288 (by decide) rfl (by omega) (fun g3 => ?_) (fun g3 => ?_)
                · exact absurd e7 g3
                · skip
                  refine w_aload_n (pc2 := 292) C dX11_item_291 rfl rfl ?_
                  refine w_aload_n (pc2 := 293) C dX11_item_292 rfl rfl ?_
                  refine z_getI (pc2 := 296) C dX11_item_293 fl_X11_93 (by first | exact hy.k _ | assumption) rfl ?_
                  refine w_iload (pc2 := 298) C dX11_item_296 rfl rfl ?_
                  refine z_iadd (pc2 := 299) C dX11_item_298 rfl ?_
                  refine w_aload_n (pc2 := 300) C dX11_item_299 rfl rfl ?_
                  refine w_getR (pc2 := 303) C dX11_item_300 fl_X11_39 (by first | exact hy.k _ | assumption) (by first | exact hy.r _ _ | assumption) rfl ?_
                  refine w_iload (pc2 := 305) C dX11_item_303 rfl rfl ?_
                  refine w_iconst (pc2 := 306) (v := iI 2) C dX11_item_305 (by decide) rfl ?_
                  -- at 306: .irem
                  rw [e11]
                  refine z_irem (pc2 := 307) C dX11_item_306 (by omega) rfl ?_
                  refine z_iald (pc2 := 308) (j := k2 % 2) C dX11_item_307 (by first | exact hy.k _ | assumption) (by omega) (by omega) (by decide) rfl ?_
                  rw [e44]
                  refine w_iload_n (pc2 := 309) C dX11_item_308 rfl rfl ?_
                  -- at 309: .invokevirtual 100
                  by_cases hful : c + k2 = 100
                  · skip
                    refine w_cVv (pc2 := 312)  C dX11_item_309 mb_X11_100 mv_X11_strikesHere (s_X11_strikesHere0 hy (by rw [p3]; omega) e7) (by first | exact hy.k _ | assumption) rfl (by decide) rfl rfl (Nat.le_of_ble_eq_true rfl) ⟨by decide, by decide⟩ ⟨rfl, rfl⟩ ⟨by decide, by decide⟩ rfl ?_
                    refine w_iinc (pc2 := 315) C dX11_item_312 rfl (iI_add _ _) rfl (by decide) rfl rfl ?_
                    try dsimp only [List.set]
                    refine w_goto (tgt := 277) C dX11_item_315 (by decide) ?_
                    -- at 277: .iload 5
                    have v7 : up2 (up2 J6 34 7 4) 34 8 (q : Int) 34 7 = 4 := by rw [up2_n _ _ _ _ (by omega), up2_s]
                    exact bd277 _ (k2 + 1) v7 (by omega) (hpno _ (by omega) (fun a a1 a2 a3 => by rw [up2_row a1, up2_row a1]; exact p1 a a1 a2 a3) (by rw [up2_n _ _ _ _ (by omega), up2_n _ _ _ _ (by omega)]; exact p2 4 (by decide)) v7 (by rw [up2_s]))
                  · skip
                    refine w_gV (pc2 := 312)  C dX11_item_309 mb_X11_100 mv_X11_strikesHere (s_X11_strikesHere hy (c := c + k2) (k0 := c + k2) p3 (by omega) e7 (Nat.le_refl _) (fun i h1 h2 => absurd h1 (by omega)) (by
                      rcases Nat.eq_zero_or_pos (c + k2) with z | z
                      · exact Or.inl z
                      · refine Or.inr (Or.inl ?_)
                        rcases Nat.eq_zero_or_pos k2 with z2 | z2
                        · subst z2
                          have r1 := p4 (c - 1) (by omega)
                          have r2 := harr (c - 1) (by omega)
                          rw [show c + 0 - 1 = c - 1 by omega, r1.1, j0 39 (by decide) (by decide) (by decide)]
                          omega
                        · have r1 := p5 (k2 - 1) (by omega)
                          rw [show c + k2 - 1 = c + (k2 - 1) by omega, r1.1, ← hft]
                          omega) (fun i hi => by
                      rcases Nat.lt_or_ge i c with z | z
                      · have r1 := p4 i z
                        have r2 := harr i z
                        rw [r1.1, r1.2, j0 39 (by decide) (by decide) (by decide), j0 40 (by decide) (by decide) (by decide)]
                        exact ⟨by omega, by omega⟩
                      · have r1 := p5 (i - c) (by omega)
                        rw [show c + (i - c) = i by omega] at r1
                        have r3 := (hds ((i - c) % 2) (by omega)).1
                        rw [r1.1, r1.2, ← hft, ← hfb]
                        exact ⟨by omega, by omega⟩) (by omega) (by omega)) (by first | exact hy.k _ | assumption) rfl (by decide) rfl rfl (Nat.le_of_ble_eq_true rfl) ⟨by decide, by decide⟩ ⟨rfl, rfl⟩ ⟨by decide, by decide⟩ rfl ?_
                    rintro r2 n2 K2 I2 L2 R2 ⟨J7, hD, hIn⟩
                    obtain ⟨d1, d2, d3, d4, d5, d6⟩ := hD
                    replace d2 := d2.symm
                    replace d3 := d3.symm
                    replace d5 := d5.symm
                    replace d6 := d6.symm
                    subst d1
                    subst d2
                    subst d3
                    subst d4
                    subst d5
                    subst d6
                    refine w_iinc (pc2 := 315) C dX11_item_312 rfl (iI_add _ _) rfl (by decide) rfl rfl ?_
                    try dsimp only [List.set]
                    refine w_goto (tgt := 277) C dX11_item_315 (by decide) ?_
                    -- at 277: .iload 5
                    exact ih (k2 + 1) J7 (by omega) (by omega) (hP.add hIn (hft k2) (hfb k2))
          have lp2 : ¬ y = 116 → ∀ (d k2 : Nat) (J6 : wJn), k2 + d = k → c + k2 ≤ 100 → PlR J5 J6 c k2 (fun _ => (tk : Int)) (fun i => (rnk (orF bs k2) i 24 : Nat)) → wp Γ 0 0 (QQ Γ post) 324 [some (.ref 34), some (.int (iI q)), some (.int (iI y)), some (.int (iI k)), some (.int (iI (l : Nat))), some (.int (iI k2))] [] n K (zw J6) L R := by
            intro hy1 d
            have hadd : addOf y m l = k := by unfold addOf; rw [if_neg hy1, hm]; exact hpk
            induction d with
            | zero =>
              intro k2 J6 hk2 hcl hP
              have ek : k2 = k := by omega
              subst ek
              refine w_iload (pc2 := 326) C dX11_item_324 rfl rfl ?_
              refine w_iload_n (pc2 := 327) C dX11_item_326 rfl rfl ?_
              -- at 327: .if_icmp .ge 32
              refine z_icmp_ge (pc2 := 330) (tgt := 359) C dX11_item_327 (by decide) rfl (by omega) (by omega) (fun g2 => ?_) (fun g2 => ?_)
              · exact w_drop (f359 J6 k2 _ (hpok J6 (by omega) (by
                  rw [hadd]
                  exact hP.cong (fun i => by unfold ftI; rw [if_neg hy1]) (fun i => by unfold fbI; rw [if_neg hy1, hm])))) ⟨rfl, rfl, rfl, rfl, rfl, trivial⟩
              · exact absurd g2 (by omega)
            | succ d ih =>
              intro k2 J6 hk2 hcl hP
              obtain ⟨p1, p2, p3, p4, p5⟩ := id hP
              have e7 : J6 34 7 = 0 := by rw [p2 7 (by decide)]; exact w7
              have e11 : J6 34 11 = (tk : Nat) := by rw [p2 11 (by decide)]; exact j11
              have e44 : J6 44 k2 = (bs k2 : Nat) := by rw [p1 44 (by decide) (by decide) (by decide)]; exact j44 _ (by omega)
              have hbk := hds k2 (by omega)
              have hp2 := dsb_popc (hds.le (j := k2) (by omega))
              have hpl := popc_mn (orF bs k2) (a := bs k2) 24 (by omega)
              refine w_iload (pc2 := 326) C dX11_item_324 rfl rfl ?_
              refine w_iload_n (pc2 := 327) C dX11_item_326 rfl rfl ?_
              -- at 327: .if_icmp .ge 32
              refine z_icmp_ge (pc2 := 330) (tgt := 359) C dX11_item_327 (by decide) rfl (by omega) (by omega) (fun g2 => ?_) (fun g2 => ?_)
              · exact absurd g2 (by omega)
              · skip
                refine w_aload_n (pc2 := 331) C dX11_item_330 rfl rfl ?_
                refine z_getI (pc2 := 334) C dX11_item_331 fl_X11_56 (by first | exact hy.k _ | assumption) rfl ?_
                -- at 334: .ifCond .ne 25
                refine z_if_ne (pc2 := 337) (tgt := 359) C dX11_item_334 (by decide) rfl (by omega) (fun g3 => ?_) (fun g3 => ?_)
                · exact absurd e7 g3
                · skip
                  refine w_aload_n (pc2 := 338) C dX11_item_337 rfl rfl ?_
                  refine w_aload_n (pc2 := 339) C dX11_item_338 rfl rfl ?_
                  refine z_getI (pc2 := 342) C dX11_item_339 fl_X11_93 (by first | exact hy.k _ | assumption) rfl ?_
                  refine w_aload_n (pc2 := 343) C dX11_item_342 rfl rfl ?_
                  refine w_getR (pc2 := 346) C dX11_item_343 fl_X11_39 (by first | exact hy.k _ | assumption) (by first | exact hy.r _ _ | assumption) rfl ?_
                  refine w_iload (pc2 := 348) C dX11_item_346 rfl rfl ?_
                  -- at 348: .iaload
                  rw [e11]
                  refine z_iald (pc2 := 349) (j := k2) C dX11_item_348 (by first | exact hy.k _ | assumption) (by omega) (by omega) (by decide) rfl ?_
                  rw [e44]
                  refine w_iload_n (pc2 := 350) C dX11_item_349 rfl rfl ?_
                  -- at 350: .invokevirtual 100
                  by_cases hful : c + k2 = 100
                  · skip
                    refine w_cVv (pc2 := 353)  C dX11_item_350 mb_X11_100 mv_X11_strikesHere (s_X11_strikesHere0 hy (by rw [p3]; omega) e7) (by first | exact hy.k _ | assumption) rfl (by decide) rfl rfl (Nat.le_of_ble_eq_true rfl) ⟨by decide, by decide⟩ ⟨rfl, rfl⟩ ⟨by decide, by decide⟩ rfl ?_
                    refine w_iinc (pc2 := 356) C dX11_item_353 rfl (iI_add _ _) rfl (by decide) rfl rfl ?_
                    try dsimp only [List.set]
                    refine w_goto (tgt := 324) C dX11_item_356 (by decide) ?_
                    -- at 324: .iload 5
                    have v7 : up2 (up2 J6 34 7 4) 34 8 (q : Int) 34 7 = 4 := by rw [up2_n _ _ _ _ (by omega), up2_s]
                    exact bd324 _ (k2 + 1) v7 (by omega) (hpno _ (by omega) (fun a a1 a2 a3 => by rw [up2_row a1, up2_row a1]; exact p1 a a1 a2 a3) (by rw [up2_n _ _ _ _ (by omega), up2_n _ _ _ _ (by omega)]; exact p2 4 (by decide)) v7 (by rw [up2_s]))
                  · skip
                    refine w_gV (pc2 := 353)  C dX11_item_350 mb_X11_100 mv_X11_strikesHere (s_X11_strikesHere hy (c := c + k2) (k0 := c + popc (orF bs k2) (bs k2)) p3 (by omega) e7 (by omega) (fun i h1 h2 => by
                      have r1 := p5 (i - c) (by omega)
                      rw [show c + (i - c) = i by omega] at r1
                      have r2 := (rnk_hi hbk.2 (i := i - c) (by omega) (by omega)).1
                      exact ⟨r1.1, by rw [r1.2]; dsimp only; omega⟩) (by
                      rcases Nat.eq_zero_or_pos (popc (orF bs k2) (bs k2)) with z | z
                      · rcases Nat.eq_zero_or_pos c with z2 | z2
                        · exact Or.inl (by omega)
                        · refine Or.inr (Or.inl ?_)
                          have r1 := p4 (c - 1) (by omega)
                          have r2 := harr (c - 1) (by omega)
                          rw [z, show c + 0 - 1 = c - 1 by omega, r1.1, j0 39 (by decide) (by decide) (by decide)]
                          omega
                      · refine Or.inr (Or.inr ?_)
                        have r1 := p5 (popc (orF bs k2) (bs k2) - 1) (by omega)
                        have r2 := (rnk_lo hbk.2 hbk.1 (i := popc (orF bs k2) (bs k2) - 1) (by omega)).1
                        rw [show c + popc (orF bs k2) (bs k2) - 1 = c + (popc (orF bs k2) (bs k2) - 1) by omega, r1.2]
                        dsimp only
                        omega) (fun i hi => by
                      rcases Nat.lt_or_ge i c with z | z
                      · have r1 := p4 i z
                        have r2 := harr i z
                        rw [r1.1, r1.2, j0 39 (by decide) (by decide) (by decide), j0 40 (by decide) (by decide) (by decide)]
                        exact ⟨by omega, by omega⟩
                      · have r1 := p5 (i - c) (by omega)
                        rw [show c + (i - c) = i by omega] at r1
                        obtain ⟨x, x1, x2, x3, x4⟩ := rnk_get (m := orF bs k2) (i := i - c) (by omega)
                        rw [r1.1, r1.2]
                        simp only [x4]
                        exact ⟨by omega, by omega⟩) (by omega) (by omega)) (by first | exact hy.k _ | assumption) rfl (by decide) rfl rfl (Nat.le_of_ble_eq_true rfl) ⟨by decide, by decide⟩ ⟨rfl, rfl⟩ ⟨by decide, by decide⟩ rfl ?_
                    rintro r2 n2 K2 I2 L2 R2 ⟨J7, hD, hIn⟩
                    obtain ⟨d1, d2, d3, d4, d5, d6⟩ := hD
                    replace d2 := d2.symm
                    replace d3 := d3.symm
                    replace d5 := d5.symm
                    replace d6 := d6.symm
                    subst d1
                    subst d2
                    subst d3
                    subst d4
                    subst d5
                    subst d6
                    refine w_iinc (pc2 := 356) C dX11_item_353 rfl (iI_add _ _) rfl (by decide) rfl rfl ?_
                    try dsimp only [List.set]
                    refine w_goto (tgt := 324) C dX11_item_356 (by decide) ?_
                    -- at 324: .iload 5
                    exact ih (k2 + 1) J7 (by omega) (by omega) (hP.ins (hds.le (by omega)) hIn)
          have p0 : ∀ ft fb, PlR J5 J5 c 0 ft fb := fun ft fb => ⟨fun _ _ _ _ => rfl, fun _ _ => rfl, by rw [j10]; rfl, fun _ _ => ⟨rfl, rfl⟩, fun i hi => absurd hi (by omega)⟩
          refine w_iload_n (pc2 := 269) C dX11_item_268 rfl rfl ?_
          refine w_bipush (pc2 := 271) (v := iI 116) C dX11_item_269 (by decide) rfl ?_
          -- at 271: .if_icmp .ne 50
          refine z_icmp_ne (pc2 := 274) (tgt := 321) C dX11_item_271 (by decide) rfl (by omega) (by omega) (fun g2 => ?_) (fun g2 => ?_)
          · skip
            refine w_iconst (pc2 := 322) (v := iI 0) C dX11_item_321 (by decide) rfl ?_
            refine w_istore (pc2 := 324) C dX11_item_322 rfl (by decide) rfl rfl ?_
            try dsimp only [List.set]
            -- at 324: .iload 5
            exact lp2 g2 k 0 J5 (by omega) (by omega) (p0 _ _)
          · skip
            refine w_iconst (pc2 := 275) (v := iI 0) C dX11_item_274 (by decide) rfl ?_
            refine w_istore (pc2 := 277) C dX11_item_275 rfl (by decide) rfl rfl ?_
            try dsimp only [List.set]
            -- at 277: .iload 5
            exact lp1 g2 l 0 J5 (by omega) (by omega) (p0 _ _)
    refine w_aload_n (pc2 := 228) C dX11_item_227 rfl rfl ?_
    refine z_getI (pc2 := 231) C dX11_item_228 fl_X11_56 (by first | exact hy.k _ | assumption) rfl ?_
    -- at 231: .ifCond .ne 19
    refine z_if_ne (pc2 := 234) (tgt := 250) C dX11_item_231 (by decide) rfl (by omega) (fun g1 => ?_) (fun g1 => ?_)
    · exact absurd c7 g1
    · skip
      refine w_iload_n (pc2 := 235) C dX11_item_234 rfl rfl ?_
      refine w_bipush (pc2 := 237) (v := iI 40) C dX11_item_235 (by decide) rfl ?_
      -- at 237: .if_icmp .ne 13
      refine z_icmp_ne (pc2 := 240) (tgt := 250) C dX11_item_237 (by decide) rfl (by omega) (by omega) (fun g2 => ?_) (fun g2 => ?_)
      · rcases he with ⟨z1, z2⟩ | ⟨z1, z2⟩
        · exact absurd z1 g2
        · exact go J3 (fun _ _ => rfl) (fun _ _ => rfl) (by rw [z2]; exact c5)
      · rcases he with ⟨z1, z2⟩ | ⟨z1, z2⟩
        · skip
          refine w_aload_n (pc2 := 241) C dX11_item_240 rfl rfl ?_
          refine w_dup (pc2 := 242) C dX11_item_241 rfl rfl ?_
          refine z_getI (pc2 := 245) C dX11_item_242 fl_X11_62 (by first | exact hy.k _ | assumption) rfl ?_
          refine w_iconst (pc2 := 246) (v := iI 1) C dX11_item_245 (by decide) rfl ?_
          refine z_iadd (pc2 := 247) C dX11_item_246 rfl ?_
          refine z_putI (pc2 := 250) C dX11_item_247 fl_X11_62 (by first | exact hy.k _ | assumption) (by rfl) (by rfl) rfl ?_
          -- at 250: .aload_n 0
          exact go _ (fun a ha => by rw [up2_row ha]) (fun b hb => by rw [up2_n _ _ _ _ (by omega)]) (by rw [up2_s, c5, z2]; omega)
        · exact absurd g2 z1
  -- no BELL more
  have ex100 : ∀ (J3 : wJn) (k : Nat), k ≤ 10 → ¬ y = 40 → (y = 116 → 2 ≤ k) → J3 34 7 = 0 → wp Γ 0 0 (QQ Γ post) 227 [some (.ref 34), some (.int (iI q)), some (.int (iI y)), some (.int (iI k)), none, none] [] n K (zw J3) L R → wp Γ 0 0 (QQ Γ post) 100 [some (.ref 34), some (.int (iI q)), some (.int (iI y)), some (.int (iI k)), none, none] [] n K (zw J3) L R := by
    intro J3 k hk hy4 hy1 c7 hW
    refine w_aload_n (pc2 := 101) C dX11_item_100 rfl rfl ?_
    refine z_getI (pc2 := 104) C dX11_item_101 fl_X11_56 (by first | exact hy.k _ | assumption) rfl ?_
    -- at 104: .ifCond .ne 123
    refine z_if_ne (pc2 := 107) (tgt := 227) C dX11_item_104 (by decide) rfl (by omega) (fun g1 => ?_) (fun g1 => ?_)
    · exact absurd c7 g1
    · skip
      refine w_iload_n (pc2 := 108) C dX11_item_107 rfl rfl ?_
      refine w_bipush (pc2 := 110) (v := iI 40) C dX11_item_108 (by decide) rfl ?_
      -- at 110: .if_icmp .ne 12
      refine z_icmp_ne (pc2 := 113) (tgt := 122) C dX11_item_110 (by decide) rfl (by omega) (by omega) (fun g2 => ?_) (fun g2 => ?_)
      · skip
        refine w_iload_n (pc2 := 123) C dX11_item_122 rfl rfl ?_
        refine w_bipush (pc2 := 125) (v := iI 116) C dX11_item_123 (by decide) rfl ?_
        -- at 125: .if_icmp .ne 102
        refine z_icmp_ne (pc2 := 128) (tgt := 227) C dX11_item_125 (by decide) rfl (by omega) (by omega) (fun g3 => ?_) (fun g3 => ?_)
        · exact hW
        · skip
          refine w_iload_n (pc2 := 129) C dX11_item_128 rfl rfl ?_
          refine w_iconst (pc2 := 130) (v := iI 2) C dX11_item_129 (by decide) rfl ?_
          -- at 130: .if_icmp .ge 97
          refine z_icmp_ge (pc2 := 133) (tgt := 227) C dX11_item_130 (by decide) rfl (by omega) (by omega) (fun g4 => ?_) (fun g4 => ?_)
          · exact hW
          · exact absurd (hy1 g3) (by omega)
      · exact absurd g2 hy4
  have chord : y = 40 → tk ≤ 1999 → ∀ (f k : Nat) (J3 : wJn) (bs : Nat → Nat) (p : Nat), k + f = 5 → (1 ≤ k ∧ k ≤ 4) → FrI J J3 → J3 34 7 = 0 → J3 34 8 = J 34 8 → J3 34 5 = (p : Nat) → p ≤ t → (∀ i, i < k → J3 44 i = (bs i : Nat)) → DsB bs k → crd s t (q + 1) = chd s t f p (orF bs k) → wp Γ 0 0 (QQ Γ post) 100 [some (.ref 34), some (.int (iI q)), some (.int (iI y)), some (.int (iI k)), none, none] [] n K (zw J3) L R := by
    intro hy4 ht f
    have hI : IsI y := Or.inr (Or.inl hy4)
    induction f with
    | zero => intro k J3 bs p hk hk2; exact absurd hk (by omega)
    | succ f ih =>
      intro k J3 bs p hk hk2 hF c7 c8 c5 hpt h44 hds hcr
      obtain ⟨f0, fb⟩ := id hF
      have hT3 : TxR J3 s t := hT.rows (fb 6 (by decide) (by decide) (by decide) (by decide)) (f0 38 (by decide) (by decide))
      have hb := h2.bd (nb s t p)
      have hnl := nb_le (s := s) hpt
      rw [chd] at hcr
      have hF4 : FrI J (up2 J3 34 5 (nb s t p : Int)) := ⟨fun a a1 a2 => by rw [up2_row a1]; exact f0 a a1 a2, fun b b5 b7 b8 b9 => by rw [up2_n _ _ _ _ (by omega)]; exact fb b b5 b7 b8 b9⟩
      refine w_aload_n (pc2 := 101) C dX11_item_100 rfl rfl ?_
      refine z_getI (pc2 := 104) C dX11_item_101 fl_X11_56 (by first | exact hy.k _ | assumption) rfl ?_
      -- at 104: .ifCond .ne 123
      refine z_if_ne (pc2 := 107) (tgt := 227) C dX11_item_104 (by decide) rfl (by omega) (fun g1 => ?_) (fun g1 => ?_)
      · exact absurd c7 g1
      · skip
        refine w_iload_n (pc2 := 108) C dX11_item_107 rfl rfl ?_
        refine w_bipush (pc2 := 110) (v := iI 40) C dX11_item_108 (by decide) rfl ?_
        -- at 110: .if_icmp .ne 12
        refine z_icmp_ne (pc2 := 113) (tgt := 122) C dX11_item_110 (by decide) rfl (by omega) (by omega) (fun g2 => ?_) (fun g2 => ?_)
        · exact absurd hy4 g2
        · skip
          refine w_aload_n (pc2 := 114) C dX11_item_113 rfl rfl ?_
          -- at 114: .invokevirtual 68
          refine w_cVi (pc2 := 117)  C dX11_item_114 mb_X11_68 mv_X11_next (s_X11_next hy hT3 c5 hpt) (by first | exact hy.k _ | assumption) rfl (by decide) rfl rfl (Nat.le_of_ble_eq_true rfl) ⟨by decide, by decide⟩ ⟨rfl, rfl⟩ ⟨by decide, by decide⟩ rfl ?_
          refine w_bipush (pc2 := 119) (v := iI 41) C dX11_item_117 (by decide) rfl ?_
          -- at 119: .if_icmp .ne 14
          refine z_icmp_ne (pc2 := 122) (tgt := 133) C dX11_item_119 (by decide) rfl (by omega) (by omega) (fun g3 => ?_) (fun g3 => ?_)
          · rw [if_neg g3] at hcr
            refine one _ bs k (nb s t p) hF4 (by rw [up2_n _ _ _ _ (by omega)]; exact c7) (by rw [up2_n _ _ _ _ (by omega)]; exact c8) (by rw [up2_s]) hnl hk2 (fun i hi => by rw [up2_row (by decide)]; exact h44 i hi) hds (fun fl hfl J4 hFl => ?_) (fun b e hbe J4 bs2 d1 d2 d3 d4 d5 d6 d7 d8 => ?_)
            · rw [hfl] at hcr
              have hbo := bod_c0 hcr
              rw [← hy4] at hbo
              exact pbad _ fl hI ht (itm_f hbo) hFl
            · have hbk := bel_ok h2 hnl hbe
              have hpk := dsb_popc hds
              rw [hbe] at hcr
              refine ih (k + 1) J4 bs2 e (by omega) (by omega) d1 d2 d3 d4 hbk.2.1 d7 d8 ?_
              rw [hcr, orF, orF_cong k d5, d6]
          · rw [if_pos g3] at hcr
            have hbo := bod_c hcr
            have hlt := h2.lt (p := nb s t p) (by omega)
            refine w_iload_n (pc2 := 123) C dX11_item_122 rfl rfl ?_
            refine w_bipush (pc2 := 125) (v := iI 116) C dX11_item_123 (by decide) rfl ?_
            -- at 125: .if_icmp .ne 102
            refine z_icmp_ne (pc2 := 128) (tgt := 227) C dX11_item_125 (by decide) rfl (by omega) (by omega) (fun g4 => ?_) (fun g4 => ?_)
            · rw [← hy4] at hbo
              exact ok227 _ bs k (orF bs k) 0 0 (nb s t p + 1) (nb s t p) hI ht hF4 (by rw [up2_n _ _ _ _ (by omega)]; exact c7) (by rw [up2_n _ _ _ _ (by omega)]; exact c8) (by rw [up2_s]) (Or.inl ⟨hy4, rfl⟩) (by omega) hbo hk2.2 (fun i hi => by rw [up2_row (by decide)]; exact h44 i hi) hds rfl (fun z => absurd z g4)
            · exact absurd g4 (by omega)
  have trill : y = 116 → tk ≤ 1999 → ∀ (J3 : wJn) (bs : Nat → Nat) (p : Nat), FrI J J3 → J3 34 7 = 0 → J3 34 8 = J 34 8 → J3 34 5 = (p : Nat) → p ≤ t → J3 44 0 = (bs 0 : Nat) → DsB bs 1 → bel s t (q + 1) 0 = .inr (bs 0, p) → wp Γ 0 0 (QQ Γ post) 100 [some (.ref 34), some (.int (iI q)), some (.int (iI y)), some (.int (iI ((1 : Nat) : Int))), none, none] [] n K (zw J3) L R := by
    intro hy1 ht J3 bs p hF c7 c8 c5 hpt h44 hds hbl
    have hI : IsI y := Or.inr (Or.inr (Or.inr hy1))
    have hbt := bod_t hbl
    refine w_aload_n (pc2 := 101) C dX11_item_100 rfl rfl ?_
    refine z_getI (pc2 := 104) C dX11_item_101 fl_X11_56 (by first | exact hy.k _ | assumption) rfl ?_
    -- at 104: .ifCond .ne 123
    refine z_if_ne (pc2 := 107) (tgt := 227) C dX11_item_104 (by decide) rfl (by omega) (fun g1 => ?_) (fun g1 => ?_)
    · exact absurd c7 g1
    · skip
      refine w_iload_n (pc2 := 108) C dX11_item_107 rfl rfl ?_
      refine w_bipush (pc2 := 110) (v := iI 40) C dX11_item_108 (by decide) rfl ?_
      -- at 110: .if_icmp .ne 12
      refine z_icmp_ne (pc2 := 113) (tgt := 122) C dX11_item_110 (by decide) rfl (by omega) (by omega) (fun g2 => ?_) (fun g2 => ?_)
      · skip
        refine w_iload_n (pc2 := 123) C dX11_item_122 rfl rfl ?_
        refine w_bipush (pc2 := 125) (v := iI 116) C dX11_item_123 (by decide) rfl ?_
        -- at 125: .if_icmp .ne 102
        refine z_icmp_ne (pc2 := 128) (tgt := 227) C dX11_item_125 (by decide) rfl (by omega) (by omega) (fun g3 => ?_) (fun g3 => ?_)
        · exact absurd hy1 g3
        · skip
          refine w_iload_n (pc2 := 129) C dX11_item_128 rfl rfl ?_
          refine w_iconst (pc2 := 130) (v := iI 2) C dX11_item_129 (by decide) rfl ?_
          -- at 130: .if_icmp .ge 97
          refine z_icmp_ge (pc2 := 133) (tgt := 227) C dX11_item_130 (by decide) rfl (by omega) (by omega) (fun g4 => ?_) (fun g4 => ?_)
          · exact absurd g4 (by decide)
          · refine one J3 bs 1 p hF c7 c8 c5 hpt (by omega) (fun i hi => by rw [show i = 0 by omega]; exact h44) hds (fun fl hfl J4 hFl => ?_) (fun b e hbe J4 bs2 d1 d2 d3 d4 d5 d6 d7 d8 => ?_)
            · have hbo := hbt.1 fl hfl
              rw [← hy1] at hbo
              exact pbad _ fl hI ht (itm_f hbo) hFl
            · have hbo := hbt.2 b e hbe
              rw [← hy1] at hbo
              have hbk := bel_ok h2 hpt hbe
              have e0 := d5 0 (by omega)
              refine ex100 J4 2 (by omega) (by omega) (fun _ => Nat.le_refl 2) d2 (ok227 J4 bs2 2 _ (bs 0) b e e hI ht d1 d2 d3 d4 (Or.inr ⟨by omega, rfl⟩) hbk.2.1 hbo (by omega) d7 d8 ?_ (fun _ => ⟨rfl, e0, d6⟩))
              show _ = (0 ||| 2 ^ bs2 0) ||| 2 ^ bs2 1
              rw [e0, d6]
      · exact absurd g2 (by omega)
  have yes46 : IsI y → wp Γ 0 0 (QQ Γ post) 46 [some (.ref 34), some (.int (iI q)), some (.int (iI y)), some (.int (iI ((0 : Nat) : Int))), none, none] [] n K (zw J) L R := by
    intro hI
    have u5 : ∀ x : Int, FrI J (up2 J 34 5 x) := fun x => ⟨fun a a1 a2 => by rw [up2_row a1], fun b b5 b7 b8 b9 => by rw [up2_n _ _ _ _ (by omega)]⟩
    have u7 : ∀ x : Int, up2 J 34 5 x 34 7 = 0 := fun x => by rw [up2_n _ _ _ _ (by omega)]; exact hf
    have u8 : ∀ x : Int, up2 J 34 5 x 34 8 = J 34 8 := fun x => up2_n _ _ _ _ (by omega)
    refine w_aload_n (pc2 := 47) C dX11_item_46 rfl rfl ?_
    refine z_getI (pc2 := 50) C dX11_item_47 fl_X11_93 (by first | exact hy.k _ | assumption) rfl ?_
    refine w_sipush (pc2 := 53) (v := iI 1999) C dX11_item_50 (by decide) rfl ?_
    -- at 53: .if_icmp .le 9
    refine z_icmp_le (pc2 := 56) (tgt := 62) C dX11_item_53 (by decide) rfl (by omega) (by omega) (fun g1 => ?_) (fun g1 => ?_)
    · have ht : tk ≤ 1999 := by omega
      refine w_aload_n (pc2 := 63) C dX11_item_62 rfl rfl ?_
      refine w_dup (pc2 := 64) C dX11_item_63 rfl rfl ?_
      refine z_getI (pc2 := 67) C dX11_item_64 fl_X11_62 (by first | exact hy.k _ | assumption) rfl ?_
      refine w_iconst (pc2 := 68) (v := iI 1) C dX11_item_67 (by decide) rfl ?_
      refine z_iadd (pc2 := 69) C dX11_item_68 rfl ?_
      refine z_putI (pc2 := 72) C dX11_item_69 fl_X11_62 (by first | exact hy.k _ | assumption) (by rfl) (by rfl) rfl ?_
      refine w_iload_n (pc2 := 73) C dX11_item_72 rfl rfl ?_
      refine w_bipush (pc2 := 75) (v := iI 95) C dX11_item_73 (by decide) rfl ?_
      -- at 75: .if_icmp .eq 25
      rw [hq]
      have u7a := u7 ((q : Int) + 1)
      refine z_icmp_eq (pc2 := 78) (tgt := 100) C dX11_item_75 (by decide) rfl (by omega) (by omega) (fun g2 => ?_) (fun g2 => ?_)
      · refine ex100 _ 0 (by omega) (by omega) (fun z => absurd z (by omega)) u7a (ok227 _ (fun _ => 0) 0 0 0 0 (q + 1) (q + 1) hI ht (u5 _) u7a (u8 _) (by rw [up2_s]; omega) (Or.inr ⟨by omega, rfl⟩) (by omega) (by rw [g2]; exact bod_0) (by omega) (fun i hi => absurd hi (by omega)) (fun j hj => absurd hj (by omega)) rfl (fun z => absurd z (by omega)))
      · have hy3 : y = 98 ∨ y = 40 ∨ y = 116 := by unfold IsI at hI; omega
        refine w_aload_n (pc2 := 79) C dX11_item_78 rfl rfl ?_
        refine z_getI (pc2 := 82) C dX11_item_79 fl_X11_56 (by first | exact hy.k _ | assumption) rfl ?_
        -- at 82: .ifCond .ne 18
        refine z_if_ne (pc2 := 85) (tgt := 100) C dX11_item_82 (by decide) rfl (by omega) (fun g3 => ?_) (fun g3 => ?_)
        · exact absurd u7a g3
        · skip
          refine w_aload_n (pc2 := 86) C dX11_item_85 rfl rfl ?_
          refine w_getR (pc2 := 89) C dX11_item_86 fl_X11_39 (by first | exact hy.k _ | assumption) (by first | exact hy.r _ _ | assumption) rfl ?_
          refine w_iconst (pc2 := 90) (v := iI 0) C dX11_item_89 (by decide) rfl ?_
          refine w_aload_n (pc2 := 91) C dX11_item_90 rfl rfl ?_
          refine w_iconst (pc2 := 92) (v := iI 0) C dX11_item_91 (by decide) rfl ?_
          refine w_bipush (pc2 := 94) (v := iI 23) C dX11_item_92 (by decide) rfl ?_
          -- at 94: .invokevirtual 83
          refine w_gV (pc2 := 97)  C dX11_item_94 mb_X11_83 mv_X11_number (s_X11_number hy (by decide) (by decide) (s := s) (t := t) (p := q + 1) (hT.rows (up2_n _ _ _ _ (by omega)) (up2_row (by decide))) (by rw [up2_s]; omega) (by omega) u7a) (by first | exact hy.k _ | assumption) rfl (by decide) rfl rfl (Nat.le_of_ble_eq_true rfl) ⟨by decide, by decide⟩ ⟨rfl, rfl⟩ ⟨by decide, by decide⟩ rfl ?_
          rintro r2 n2 K2 I2 L2 R2 ⟨J2, v, hD, hN⟩
          obtain ⟨d1, d2, d3, d4, d5, d6⟩ := hD
          replace d2 := d2.symm
          replace d3 := d3.symm
          replace d5 := d5.symm
          replace d6 := d6.symm
          subst d1
          subst d2
          subst d3
          subst d4
          subst d5
          subst d6
          obtain ⟨n1, n2, n3, n4, n5, n6⟩ := hN
          have m0 : ∀ a, a ≠ 34 → J2 a = J a := fun a a1 => by rw [n1 a a1, up2_row a1]
          have mb : ∀ b, b ≠ 5 → b ≠ 7 → b ≠ 8 → b ≠ 9 → J2 34 b = J 34 b := fun b b5 b7 b8 b9 => by rw [n2 b b5 b7 b8 b9, up2_n _ _ _ _ (by omega)]
          have hF3 : FrI J (up2 J2 44 0 v) := ⟨fun a a1 a2 => by rw [up2_row a2]; exact m0 a a1, fun b b5 b7 b8 b9 => by rw [up2_row (by decide)]; exact mb b b5 b7 b8 b9⟩
          refine z_iast (pc2 := 98) (j := 0) C dX11_item_97 (by first | exact hy.k _ | assumption) (by omega) (by omega) (by decide) rfl ?_
          refine w_iconst (pc2 := 99) (v := iI 1) C dX11_item_98 (by decide) rfl ?_
          refine w_istore_n (pc2 := 100) C dX11_item_99 rfl (by decide) rfl rfl ?_
          try dsimp only [List.set]
          -- at 100: .aload_n 0
          rcases hn : num s t (q + 1) 0 23 with f | ⟨u, q1, e1⟩
          · obtain ⟨k1, k2, k3⟩ := n5 f hn
            have r7 : up2 J2 44 0 v 34 7 = f.1 := by rw [up2_row (by decide)]; exact k1
            refine b100 _ 1 (by decide) (by omega) (pbad _ f hI ht (itm_f (bod_f hy3 (bel_f hn))) (fup _ f _ r7 (by rw [up2_row (by decide)]; exact k2) (by omega) (fun a a1 _ _ _ a5 => hF3.1 a a1 a5) (hF3.2 4 (by decide) (by decide) (by decide) (by decide))))
          · obtain ⟨k1, k2, k3, k4, k5⟩ := n6 u q1 e1 hn
            obtain ⟨o1, o2, o3, o4, o5, o6⟩ := num_ok hn
            subst k5
            have hp0 : popc 0 24 = 0 := by decide
            have hbl := bel_h hn (m := 0) (by
              rintro (z | z)
              · simp at z
              · omega)
            have hbk := bel_ok h2 (by omega) hbl
            have hds : DsB (fun _ => v.toNat) 1 := fun j hj => ⟨hbk.1, by rw [show j = 0 by omega]; simp [orF]⟩
            have r7 : up2 J2 44 0 v 34 7 = 0 := by rw [up2_row (by decide)]; exact k1
            have r8 : up2 J2 44 0 v 34 8 = J 34 8 := by rw [up2_row (by decide), k2]; exact u8 _
            have r5 : up2 J2 44 0 v 34 5 = (e1 : Nat) := by rw [up2_row (by decide)]; exact k3
            have r44 : up2 J2 44 0 v 44 0 = (v.toNat : Nat) := by rw [up2_s]; omega
            rcases hy3 with z | z | z
            · refine ex100 _ 1 (by omega) (by omega) (fun z2 => absurd z2 (by omega)) r7 (ok227 _ (fun _ => v.toNat) 1 _ 0 0 e1 e1 hI ht hF3 r7 r8 r5 (Or.inr ⟨by omega, rfl⟩) hbk.2.1 (by rw [z]; exact bod_b hbl) (by omega) (fun i hi => by rw [show i = 0 by omega]; exact r44) hds rfl (fun z2 => absurd z2 (by omega)))
            · refine chord z ht 4 1 _ (fun _ => v.toNat) e1 rfl (by omega) hF3 r7 r8 r5 hbk.2.1 (fun i hi => by rw [show i = 0 by omega]; exact r44) hds ?_
              rw [crd, hbl]; rfl
            · exact trill z ht _ (fun _ => v.toNat) e1 hF3 r7 r8 r5 hbk.2.1 r44 hds hbl
    · have ht : 1999 < tk := by omega
      have fin : ∀ x : Int, post none n K (zw (up2 (up2 (up2 (up2 J 34 7 4) 34 8 (q : Int)) 34 5 x) 34 11 (up2 (up2 (up2 J 34 7 4) 34 8 (q : Int)) 34 5 x 34 11 + 0))) L R := by
        intro x
        have hFl : FltR J (up2 (up2 (up2 (up2 J 34 7 4) 34 8 (q : Int)) 34 5 x) 34 11 (up2 (up2 (up2 J 34 7 4) 34 8 (q : Int)) 34 5 x 34 11 + 0)) (4, q) := fup _ (4, q) _ (by rw [up2_n _ _ _ _ (by omega), up2_n _ _ _ _ (by omega), up2_s]) (by rw [up2_n _ _ _ _ (by omega), up2_s]) (by simp) (fun a a1 _ _ _ _ => by rw [up2_row a1, up2_row a1, up2_row a1]) (by rw [up2_n _ _ _ _ (by omega), up2_n _ _ _ _ (by omega), up2_n _ _ _ _ (by omega)])
        rw [← hpost]
        exact ⟨_, DetI rfl rfl, fun hni => absurd hI (by rw [hy2] at hni; exact hni), fun _ _ => hFl, fun _ hle => absurd hle (by omega)⟩
      refine w_aload_n (pc2 := 57) C dX11_item_56 rfl rfl ?_
      refine w_iconst (pc2 := 58) (v := iI 4) C dX11_item_57 (by decide) rfl ?_
      refine w_iload_n (pc2 := 59) C dX11_item_58 rfl rfl ?_
      -- at 59: .invokevirtual 72
      refine w_cVv (pc2 := 62)  C dX11_item_59 mb_X11_72 mv_X11_fail (s_X11_fail hy hf) (by first | exact hy.k _ | assumption) rfl (by decide) rfl rfl (Nat.le_of_ble_eq_true rfl) ⟨by decide, by decide⟩ ⟨rfl, rfl⟩ ⟨by decide, by decide⟩ rfl ?_
      refine w_aload_n (pc2 := 63) C dX11_item_62 rfl rfl ?_
      refine w_dup (pc2 := 64) C dX11_item_63 rfl rfl ?_
      refine z_getI (pc2 := 67) C dX11_item_64 fl_X11_62 (by first | exact hy.k _ | assumption) rfl ?_
      refine w_iconst (pc2 := 68) (v := iI 1) C dX11_item_67 (by decide) rfl ?_
      refine z_iadd (pc2 := 69) C dX11_item_68 rfl ?_
      refine z_putI (pc2 := 72) C dX11_item_69 fl_X11_62 (by first | exact hy.k _ | assumption) (by rfl) (by rfl) rfl ?_
      refine w_iload_n (pc2 := 73) C dX11_item_72 rfl rfl ?_
      refine w_bipush (pc2 := 75) (v := iI 95) C dX11_item_73 (by decide) rfl ?_
      -- at 75: .if_icmp .eq 25
      have v7 : ∀ x : Int, up2 (up2 (up2 J 34 7 4) 34 8 (q : Int)) 34 5 x 34 7 = 4 := fun x => by rw [up2_n _ _ _ _ (by omega), up2_n _ _ _ _ (by omega), up2_s]
      have v7a := v7 (up2 (up2 J 34 7 4) 34 8 (q : Int) 34 5 + 1)
      refine z_icmp_eq (pc2 := 78) (tgt := 100) C dX11_item_75 (by decide) rfl (by omega) (by omega) (fun g2 => ?_) (fun g2 => ?_)
      · exact b100 _ 0 (by decide) (by omega) (fin _)
      · skip
        refine w_aload_n (pc2 := 79) C dX11_item_78 rfl rfl ?_
        refine z_getI (pc2 := 82) C dX11_item_79 fl_X11_56 (by first | exact hy.k _ | assumption) rfl ?_
        -- at 82: .ifCond .ne 18
        refine z_if_ne (pc2 := 85) (tgt := 100) C dX11_item_82 (by decide) rfl (by omega) (fun g3 => ?_) (fun g3 => ?_)
        · exact b100 _ 0 (by decide) (by omega) (fin _)
        · exact absurd g3 (by omega)
  refine w_aload_n (pc2 := 1) C dX11_item_0 rfl rfl ?_
  refine z_getI (pc2 := 4) C dX11_item_1 fl_X11_62 (by first | exact hy.k _ | assumption) rfl ?_
  refine w_istore_n (pc2 := 5) C dX11_item_4 rfl (by decide) rfl rfl ?_
  try dsimp only [List.set]
  refine w_aload_n (pc2 := 6) C dX11_item_5 rfl rfl ?_
  -- at 6: .invokevirtual 68
  rw [hq]
  refine w_cVi (pc2 := 9)  C dX11_item_6 mb_X11_68 mv_X11_next (s_X11_next hy hT hq (by omega)) (by first | exact hy.k _ | assumption) rfl (by decide) rfl rfl (Nat.le_of_ble_eq_true rfl) ⟨by decide, by decide⟩ ⟨rfl, rfl⟩ ⟨by decide, by decide⟩ rfl ?_
  rw [hnb, hy2, ← hq, up2_self, hq]
  refine w_istore_n (pc2 := 10) C dX11_item_9 rfl (by decide) rfl rfl ?_
  try dsimp only [List.set]
  refine w_iconst (pc2 := 11) (v := iI 0) C dX11_item_10 (by decide) rfl ?_
  refine w_istore_n (pc2 := 12) C dX11_item_11 rfl (by decide) rfl rfl ?_
  try dsimp only [List.set]
  refine w_iload_n (pc2 := 13) C dX11_item_12 rfl rfl ?_
  refine w_bipush (pc2 := 15) (v := iI 98) C dX11_item_13 (by decide) rfl ?_
  -- at 15: .if_icmp .eq 31
  refine z_icmp_eq (pc2 := 18) (tgt := 46) C dX11_item_15 (by decide) rfl (by omega) (by omega) (fun g1 => ?_) (fun g1 => ?_)
  · exact yes46 (Or.inl g1)
  · skip
    refine w_iload_n (pc2 := 19) C dX11_item_18 rfl rfl ?_
    refine w_bipush (pc2 := 21) (v := iI 40) C dX11_item_19 (by decide) rfl ?_
    -- at 21: .if_icmp .eq 25
    refine z_icmp_eq (pc2 := 24) (tgt := 46) C dX11_item_21 (by decide) rfl (by omega) (by omega) (fun g2 => ?_) (fun g2 => ?_)
    · exact yes46 (Or.inr (Or.inl g2))
    · skip
      refine w_iload_n (pc2 := 25) C dX11_item_24 rfl rfl ?_
      refine w_bipush (pc2 := 27) (v := iI 95) C dX11_item_25 (by decide) rfl ?_
      -- at 27: .if_icmp .eq 19
      refine z_icmp_eq (pc2 := 30) (tgt := 46) C dX11_item_27 (by decide) rfl (by omega) (by omega) (fun g3 => ?_) (fun g3 => ?_)
      · exact yes46 (Or.inr (Or.inr (Or.inl g3)))
      · skip
        refine w_iload_n (pc2 := 31) C dX11_item_30 rfl rfl ?_
        refine w_bipush (pc2 := 33) (v := iI 116) C dX11_item_31 (by decide) rfl ?_
        -- at 33: .if_icmp .eq 13
        refine z_icmp_eq (pc2 := 36) (tgt := 46) C dX11_item_33 (by decide) rfl (by omega) (by omega) (fun g4 => ?_) (fun g4 => ?_)
        · exact yes46 (Or.inr (Or.inr (Or.inr g4)))
        · skip
          refine w_aload_n (pc2 := 37) C dX11_item_36 rfl rfl ?_
          refine w_iconst (pc2 := 38) (v := iI 1) C dX11_item_37 (by decide) rfl ?_
          refine w_aload_n (pc2 := 39) C dX11_item_38 rfl rfl ?_
          refine z_getI (pc2 := 42) C dX11_item_39 fl_X11_62 (by first | exact hy.k _ | assumption) rfl ?_
          -- at 42: .invokevirtual 72
          rw [hq]
          refine w_cVv (pc2 := 45)  C dX11_item_42 mb_X11_72 mv_X11_fail (s_X11_fail hy hf) (by first | exact hy.k _ | assumption) rfl (by decide) rfl rfl (Nat.le_of_ble_eq_true rfl) ⟨by decide, by decide⟩ ⟨rfl, rfl⟩ ⟨by decide, by decide⟩ rfl ?_
          -- at 45: .return_
          exact w_ret C dX11_item_45 (by decide) (by decide) (by
            have hni : ¬ IsI y := by unfold IsI; omega
            rw [← hpost]
            refine ⟨_, DetI rfl rfl, fun _ => ⟨by rw [up2_n _ _ _ _ (by omega), up2_s], by rw [up2_s], by simp, fun a a1 _ _ _ _ _ _ => by rw [up2_row a1, up2_row a1], by rw [up2_n _ _ _ _ (by omega), up2_n _ _ _ _ (by omega)]⟩, fun hI _ => ?_, fun hI _ => ?_⟩
            · rw [hy2] at hI; exact absurd hI hni
            · rw [hy2] at hI; exact absurd hI hni)
end ITEMR
