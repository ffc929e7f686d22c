/-! ===== rules for the heap ===== -/
/-- a class of the world, with its rows of the tables -/
def ClOK (ci : Nat) (C : String) (T : u_T) (N : Nat) (ty : Nat → FieldType) : Prop := vwCl[ci]? = some (C, T, N) ∧ (∀ w ∈ u_ws C T N, w ∈ tg) ∧ (∀ k, k < N → parseFieldDescriptor (T k).2.2.1 = some (ty k)) ∧ (∀ a, a < N → ∀ b, b < N → a ≠ b → (T a).2.1 ≠ (T b).2.1) ∧ ci < 100 ∧ (FK ci).length = N
/-- entry idx of own's pool is field k of class ci; f: 1 a reference (final), 0 a number -/
def FLk (own : String) (idx ci k f : Nat) (ty : FieldType) : Prop := ∃ (C : String) (T : u_T) (N : Nat) (tyf : Nat → FieldType), ClOK ci C T N tyf ∧ k < N ∧ Cond.fieldLink own idx (T k).1 (T k).2.1 (T k).2.2.1 ∈ tg ∧ (FK ci)[k]? = some f ∧ parseFieldDescriptor (T k).2.2.1 = some ty ∧ (T k).2.2.2 = (f == 1) ∧ (T k).1 = C
theorem cel_o {cT : Nat → ClassId} {z : Nat} {κ : Nat × Nat} {I : Nat → Int32} {L : Nat → Int64} {R : Nat → Option Nat} {ci m : Nat} (h : κ = (ci, m)) (hc : ci < 100) : cel cT z κ I L R = .inr (ci, flds z I R (FK ci) 0) := by
  subst h; simp [cel, hc]
theorem cel_i {cT : Nat → ClassId} {z : Nat} {κ : Nat × Nat} {I : Nat → Int32} {L : Nat → Int64} {R : Nat → Option Nat} {t m : Nat} (h : κ = (t, m)) (h1 : 100 ≤ t) (h2 : t < 103) : cel cT z κ I L R = .inl (cT t, m, .inl I) := by
  subst h; simp [cel, h2, Nat.not_lt.mpr h1]
theorem cel_l {cT : Nat → ClassId} {z : Nat} {κ : Nat × Nat} {I : Nat → Int32} {L : Nat → Int64} {R : Nat → Option Nat} {m : Nat} (h : κ = (103, m)) : cel cT z κ I L R = .inl (cT 103, m, .inr (.inl L)) := by
  subst h; simp [cel]
theorem cel_r {cT : Nat → ClassId} {z : Nat} {κ : Nat × Nat} {I : Nat → Int32} {L : Nat → Int64} {R : Nat → Option Nat} {t m : Nat} (h : κ = (t, m)) (h1 : 104 ≤ t) : cel cT z κ I L R = .inl (cT t, m, .inr (.inr (.inr (.inr (fun j => zo z (R j)))))) := by
  subst h; simp [cel, show ¬ t < 100 by omega, show ¬ t < 103 by omega, show ¬ t = 103 by omega]
/-- one cell has new contents, all else stays -/
theorem HW.put {D : va_G} {cT : Nat → ClassId} {z n i : Nat} {K : wKd} {I I2 : wIn} {L L2 : wLn} {R R2 : wRf} {H H1 : Heap} (h : HW D cT z n K I L R H) (hz : H1.size = H.size) (ho : ∀ q, q ≠ z + i → H1[q]? = H[q]?) (hat : va_at D vwCl (z + i, cel cT z (K i) (I2 i) (L2 i) (R2 i)) H1) (hs : ∀ j, j ≠ i → I2 j = I j ∧ L2 j = L j ∧ R2 j = R j) : HW D cT z n K I2 L2 R2 H1 := by
  refine ⟨by rw [hz]; exact h.1, h.2.1, fun k q hk => ?_⟩
  obtain ⟨hkn, rfl⟩ := wl_at hk
  by_cases e : k = i
  · subst e; exact hat
  · obtain ⟨h1, h2, h3⟩ := hs k e
    rw [h1, h2, h3]
    exact (h.2.2 k _ (wl_get hkn)).kept (ho _ (by show z + k ≠ z + i; omega))
theorem va_S.put2 {A : Nat → Prop} {H0 H H1 : Heap} {locs : List Loc} {a k : Nat} (h : va_S A H0 H locs) (z : H1.size = H.size) (oq : ∀ q : Nat, q ≠ a → H1[q]? = H[q]?) (ha : A a) : va_S A H0 H1 (locs ++ [⟨a, k⟩]) := h.put z oq ha
section HEAP
variable {Γ : Gm} {own : String} {cc : ByteArray} {nL : Nat} {ret : Option FieldType} {rm : Room} {nm : String} {cells slots pc pc2 : Nat} {Q : State → Prop} {lo : List (Option Value)} {st : List Value} {n : Nat} {K : wKd} {I : wIn} {L : wLn} {R : wRf}
theorem w_getI (C : Cx Γ own cc nL ret rm nm) {idx ci k i m : Nat} {ty : FieldType} (hd : decode cc pc = .ok (.getfield idx, 3)) (hf : FLk own idx ci k 0 ty) (hk : K i = (ci, m)) (hp : pc + 3 = pc2) (kk : wp Γ cells slots Q pc2 lo (.int (I i k) :: st) n K I L R) : wp Γ cells slots Q pc lo (.ref i :: st) n K I L R := by
  subst hp; intro H locs ls hW hS hl
  obtain ⟨Cn, T, N, tyf, ⟨h1, h2, h3, h4, h5, h6⟩, h7, h8, h9, h10, h11, h12⟩ := hf
  have hi : i < n := hW.lt hk (by show ci ≠ 999; omega)
  exact va_get (D := gD Γ) (ci := ci) (v := .int (I i k)) (C := Cn) (T := T) (N := N) C.1 C.2.1 C.2.2.2.2.2.1 h2 C.2.2.2.2.1 C.2.2.2.2.2.2.2.1.1 hW.2.2 i (by rw [wl_get hi, cel_o hk h5]) h1 k h7 (C.2.2.2.2.2.1 _ h8) (fun _ h => h) (by rw [flds_get _ _ _ _ _ _ _ h9]; simp) hd (kk H locs ls hW hS hl)
theorem w_getR (C : Cx Γ own cc nL ret rm nm) {idx ci k i m j : Nat} {ty : FieldType} (hd : decode cc pc = .ok (.getfield idx, 3)) (hf : FLk own idx ci k 1 ty) (hk : K i = (ci, m)) (hr : R i k = some j) (hp : pc + 3 = pc2) (kk : wp Γ cells slots Q pc2 lo (.ref j :: st) n K I L R) : wp Γ cells slots Q pc lo (.ref i :: st) n K I L R := by
  subst hp; intro H locs ls hW hS hl
  obtain ⟨Cn, T, N, tyf, ⟨h1, h2, h3, h4, h5, h6⟩, h7, h8, h9, h10, h11, h12⟩ := hf
  have hi : i < n := hW.lt hk (by show ci ≠ 999; omega)
  exact va_get (D := gD Γ) (ci := ci) (v := .ref (gz Γ + j)) (C := Cn) (T := T) (N := N) C.1 C.2.1 C.2.2.2.2.2.1 h2 C.2.2.2.2.1 C.2.2.2.2.2.2.2.1.1 hW.2.2 i (by rw [wl_get hi, cel_o hk h5]) h1 k h7 (C.2.2.2.2.2.1 _ h8) (fun _ h => h) (by rw [flds_get _ _ _ _ _ _ _ h9]; simp [hr, zo, va_rf]) hd (kk H locs ls hW hS hl)
theorem w_putI (C : Cx Γ own cc nL ret rm nm) {idx ci k i m : Nat} {x : Int32} {ty : FieldType} (hd : decode cc pc = .ok (.putfield idx, 3)) (hf : FLk own idx ci k 0 ty) (hk : K i = (ci, m)) (hn : narrow ty (.int x) = .int x) (hfit : fits ty (.int x) = true) (hp : pc + 3 = pc2) (kk : wp Γ cells slots Q pc2 lo st n K (up2 I i k x) L R) : wp Γ cells slots Q pc lo (.int x :: .ref i :: st) n K I L R := by
  subst hp; intro H locs ls hW hS hl
  obtain ⟨Cn, T, N, tyf, ⟨h1, h2, h3, h4, h5, h6⟩, h7, h8, h9, h10, h11, h12⟩ := hf
  have hi : i < n := hW.lt hk (by show ci ≠ 999; omega)
  have hts := C.2.2.2.2.2.1
  have hKK := C.2.2.2.2.2.2.2.1.1
  have hap := va_apart (own := own) hts h2 tyf h3 h4 hKK h1
  have hat := hW.2.2 i _ (wl_get hi)
  rw [cel_o hk h5] at hat
  obtain ⟨r, hr, cell, q1, q2, q3, q4⟩ := hat
  have hr : r = (Cn, T, N) := Option.some.inj (hr.symm.trans h1)
  subst hr
  obtain ⟨hSl, hfc, kC, hkC, hkind⟩ := hKK.1 ci _ h1
  obtain ⟨cf, kf, fi, f, hfi, hsl⟩ := hSl k h7
  have hlay := hts _ (h2 _ (u_in_lay h7))
  unfold u_lay at hlay
  rw [if_neg (by rw [h11]; decide)] at hlay
  have hst := (u_facts hfc hkC (u_lays hts h2 h7) hfi).1
  have hsd := u_store hfc hkC hkind hlay hfi h10 hn hfit
  refine W.putK C.1 C.2.1 (f := f) ⟨C.2.2.2.2.1, hts _ h8, ⟨_, _, _, hfi⟩, hst⟩ (by rw [q2]; exact hsd) q1 q3 (by rw [hsl]; exact k2_hasslot (q4 k h7)) rfl rfl hd fun H1 e1 e2 e3 => ?_
  rw [hsl] at e1 ⊢
  refine kk H1 _ ls (hW.put (i := i) e2 e3 ?_ (fun j hj => ⟨?_, rfl, rfl⟩)) (hS.put e2 e3 (Nat.le_add_right _ _)) hl
  · rw [cel_o hk h5]
    have hlen : k < (flds (gz Γ) (I i) (R i) (FK ci) 0).length := by rw [flds_len]; omega
    have hset := flds_setI (gz Γ) (I i) (up2 I i k x i) (R i) x (FK ci) 0 k h9 (by simp [up2]) (fun a ha => by simp [up2]; omega)
    refine ⟨_, h1, ?_⟩
    show t_OB _ _ _ _ _ (vp_V (flds _ _ _ _ _))
    rw [← hset]
    exact t_OB.to (V := updV (vp_V (flds (gz Γ) (I i) (R i) (FK ci) 0)) k (.int x)) ⟨_, e1, q2, q3, t_set q4 hap h7 _⟩ (fun j _ => vp_updV_set hlen _ j)
  · funext a; simp [up2, hj]
theorem w_putR (C : Cx Γ own cc nL ret rm nm) {idx ci k i m x : Nat} {ty : FieldType} (hd : decode cc pc = .ok (.putfield idx, 3)) (hf : FLk own idx ci k 1 ty) (hk : K i = (ci, m)) (hin : nm = "<init>") (hown : vwCl[ci]?.map (·.1) = some own) (hty : narrow ty (.ref (gz Γ + x)) = .ref (gz Γ + x)) (hfit : fits ty (.ref (gz Γ + x)) = true) (hp : pc + 3 = pc2) (kk : wp Γ cells slots Q pc2 lo st n K I L (up2 R i k (some x))) : wp Γ cells slots Q pc lo (.ref x :: .ref i :: st) n K I L R := by
  subst hp; intro H locs ls hW hS hl
  obtain ⟨Cn, T, N, tyf, ⟨h1, h2, h3, h4, h5, h6⟩, h7, h8, h9, h10, h11, h12⟩ := hf
  have hi : i < n := hW.lt hk (by show ci ≠ 999; omega)
  have hts := C.2.2.2.2.2.1
  have hKK := C.2.2.2.2.2.2.2.1.1
  have hap := va_apart (own := own) hts h2 tyf h3 h4 hKK h1
  have hat := hW.2.2 i _ (wl_get hi)
  rw [cel_o hk h5] at hat
  obtain ⟨r, hr, cell, q1, q2, q3, q4⟩ := hat
  have hr : r = (Cn, T, N) := Option.some.inj (hr.symm.trans h1)
  subst hr
  obtain ⟨hSl, hfc, kC, hkC, hkind⟩ := hKK.1 ci _ h1
  obtain ⟨cf, kf, fi, f, hfi, hsl⟩ := hSl k h7
  have hCo : Cn = own := by rw [h1] at hown; simpa using hown
  have hlay := hts _ (h2 _ (u_in_lay h7))
  unfold u_lay at hlay
  rw [if_pos (by rw [h11]; decide)] at hlay
  have hst := (u_facts hfc hkC (u_lays hts h2 h7) hfi).1
  have hcf : (gm Γ).cls = cf := by
    obtain ⟨_, _, c2, _, _, _, -, -, hf2, -, -, -, hown2, -⟩ := Cond.laysFinal_spec hlay
    have e1 : c2 = cf := by have := hfi.symm.trans hf2; simp at this; exact this.1.symm
    rw [h12, hCo] at hown2
    rw [← e1]; exact Option.some.inj (C.2.2.2.2.1.symm.trans hown2)
  have hsd := u_fits hfc hkC hkind (Or.inr hlay) hfi h10 hty hfit
  refine W.putFinK C.1 C.2.1 C.2.2.2.2.1 (hts _ h8) hfi hst hcf (by rw [C.2.2.2.2.2.2.2.2.2.1]; exact hin) (by rw [q2]; exact hsd) q1 q3 (by rw [hsl]; exact k2_hasslot (q4 k h7)) rfl rfl hd fun H1 e1 e2 e3 => ?_
  rw [hsl] at e1 ⊢
  refine kk H1 _ ls (hW.put (i := i) e2 e3 ?_ (fun j hj => ⟨rfl, rfl, ?_⟩)) (hS.put e2 e3 (Nat.le_add_right _ _)) hl
  · rw [cel_o hk h5]
    have hlen : k < (flds (gz Γ) (I i) (R i) (FK ci) 0).length := by rw [flds_len]; omega
    have hset := flds_setR (gz Γ) (I i) (R i) (up2 R i k (some x) i) (some x) (FK ci) 0 k h9 (by simp [up2]) (fun a ha => by simp [up2]; omega)
    refine ⟨_, h1, ?_⟩
    show t_OB _ _ _ _ _ (vp_V (flds _ _ _ _ _))
    rw [← hset]
    exact t_OB.to (V := updV (vp_V (flds (gz Γ) (I i) (R i) (FK ci) 0)) k (.ref (gz Γ + x))) ⟨_, e1, q2, q3, t_set q4 hap h7 _⟩ (fun j _ => vp_updV_set hlen _ j)
  · funext a; simp [up2, hj]
/-- array reads: the place j of the index x -/
theorem w_iald (C : Cx Γ own cc nL ret rm nm) {i m j : Nat} {x : Int32} (hd : decode cc pc = .ok (.iaload, 1)) (hk : K i = (100, m)) (hx : x = nI j) (hj : j < m) (hm : m < 2 ^ 31) (hp : pc + 1 = pc2) (kk : wp Γ cells slots Q pc2 lo (.int (I i j) :: st) n K I L R) : wp Γ cells slots Q pc lo (.int x :: .ref i :: st) n K I L R := by
  subst hp; subst hx; intro H locs ls hW hS hl
  have hi : i < n := hW.lt hk (by simp)
  have h := kk H locs ls hW hS hl
  refine va_iald (tys := tysOf (gT Γ)) C.1 C.2.1 C.2.2.2.2.2.2.2.1.1 hW.2.2 i 0 (by rw [wl_get hi, cel_i hk (by decide) (by decide)]) rfl (vp_in_nI hj hm) hd ?_
  rw [nI_clamp (by omega)]
  exact h
theorem w_bald (C : Cx Γ own cc nL ret rm nm) {i m j : Nat} {x : Int32} (hd : decode cc pc = .ok (.baload, 1)) (hk : K i = (101, m)) (hx : x = nI j) (hj : j < m) (hm : m < 2 ^ 31) (hp : pc + 1 = pc2) (kk : wp Γ cells slots Q pc2 lo (.int (I i j) :: st) n K I L R) : wp Γ cells slots Q pc lo (.int x :: .ref i :: st) n K I L R := by
  subst hp; subst hx; intro H locs ls hW hS hl
  have hi : i < n := hW.lt hk (by simp)
  have h := kk H locs ls hW hS hl
  refine va_bald (tys := tysOf (gT Γ)) C.1 C.2.1 C.2.2.2.2.2.2.2.1.1 hW.2.2 i 1 (by rw [wl_get hi, cel_i hk (by decide) (by decide)]) rfl (vp_in_nI hj hm) hd ?_
  rw [nI_clamp (by omega)]
  exact h
theorem w_zald (C : Cx Γ own cc nL ret rm nm) {i m j : Nat} {x : Int32} (hd : decode cc pc = .ok (.baload, 1)) (hk : K i = (102, m)) (hx : x = nI j) (hj : j < m) (hm : m < 2 ^ 31) (hp : pc + 1 = pc2) (kk : wp Γ cells slots Q pc2 lo (.int (I i j) :: st) n K I L R) : wp Γ cells slots Q pc lo (.int x :: .ref i :: st) n K I L R := by
  subst hp; subst hx; intro H locs ls hW hS hl
  have hi : i < n := hW.lt hk (by simp)
  have h := kk H locs ls hW hS hl
  refine va_zald (tys := tysOf (gT Γ)) C.1 C.2.1 C.2.2.2.2.2.2.2.1.1 hW.2.2 i 2 (by rw [wl_get hi, cel_i hk (by decide) (by decide)]) rfl (vp_in_nI hj hm) hd ?_
  rw [nI_clamp (by omega)]
  exact h
theorem w_lald (C : Cx Γ own cc nL ret rm nm) {i m j : Nat} {x : Int32} (hd : decode cc pc = .ok (.laload, 1)) (hk : K i = (103, m)) (hx : x = nI j) (hj : j < m) (hm : m < 2 ^ 31) (hp : pc + 1 = pc2) (kk : wp Γ cells slots Q pc2 lo (.long (L i j) :: st) n K I L R) : wp Γ cells slots Q pc lo (.int x :: .ref i :: st) n K I L R := by
  subst hp; subst hx; intro H locs ls hW hS hl
  have hi : i < n := hW.lt hk (by simp)
  have h := kk H locs ls hW hS hl
  refine va_lald (tys := tysOf (gT Γ)) C.1 C.2.1 C.2.2.2.2.2.2.2.1.1 hW.2.2 i 3 (by rw [wl_get hi, cel_l hk]) rfl (vp_in_nI hj hm) hd ?_
  rw [nI_clamp (by omega)]
  exact h
/-- arrays of references: Matters (104), int rows (105) -/
theorem w_aald (C : Cx Γ own cc nL ret rm nm) {i t m j : Nat} {x : Int32} (hd : decode cc pc = .ok (.aaload, 1)) (hk : K i = (t, m)) (ht : t = 104 ∨ t = 105) (hx : x = nI j) (hj : j < m) (hm : m < 2 ^ 31) (hp : pc + 1 = pc2) (kk : wp Γ cells slots Q pc2 lo (va_rf (R i j) :: st) n K I L R) : wp Γ cells slots Q pc lo (.int x :: .ref i :: st) n K I L R := by
  subst hp; subst hx; intro H locs ls hW hS hl
  have hi : i < n := hW.lt hk (by show t ≠ 999; omega)
  have h := kk H locs ls hW hS hl
  have hat := hW.2.2 i _ (wl_get hi)
  rw [cel_r hk (by omega)] at hat
  have hc : H[gz Γ + i]? = some (arrV (gT Γ t) m (fun j => va_rf (zo (gz Γ) (R i j)))) := hat
  have hK := C.2.2.2.2.2.2.2.1.1
  have hcl : (nI j).toNatClampNeg = j := nI_clamp (by omega)
  have harr : ∃ ty : FieldType, ty.isReference = true ∧ (gs Γ).isArrayOf (arrV (gT Γ t) m (fun j => va_rf (zo (gz Γ) (R i j)))) ty := by
    rcases ht with e | e
    · subst e; exact ⟨.object RX2, rfl, (hK.2 4 (gT Γ 104, .object RX2) rfl).1 m _⟩
    · subst e; exact ⟨.array .int, rfl, (hK.2 5 (gT Γ 105, .array .int) rfl).1 m _⟩
  obtain ⟨ty, hty, harr⟩ := harr
  refine W.aald (v := va_rf (zo (gz Γ) (R i j))) (ty := ty) C.1 C.2.1 hc harr hty (fun q => by cases q) (by rw [arrV_size]; exact vp_in_nI hj hm) (by rw [hcl, arrV_read _ _ hj]) rfl rfl hd ?_
  rw [cv_rf]
  exact h
/-- array writes -/
theorem w_iast (C : Cx Γ own cc nL ret rm nm) {i m j : Nat} {x y : Int32} (hd : decode cc pc = .ok (.iastore, 1)) (hk : K i = (100, m)) (hx : x = nI j) (hj : j < m) (hm : m < 2 ^ 31) (hp : pc + 1 = pc2) (kk : wp Γ cells slots Q pc2 lo st n K (up2 I i j y) L R) : wp Γ cells slots Q pc lo (.int y :: .int x :: .ref i :: st) n K I L R := by
  subst hp; subst hx; intro H locs ls hW hS hl
  have hi : i < n := hW.lt hk (by simp)
  have hat := hW.2.2 i _ (wl_get hi)
  rw [cel_i hk (by decide) (by decide)] at hat
  have hc : H[gz Γ + i]? = some (arrV (gT Γ 100) m (fun j => .int (I i j))) := hat
  have hK := C.2.2.2.2.2.2.2.1.1
  have hcl : (nI j).toNatClampNeg = j := nI_clamp (by omega)
  refine W.iast C.1 C.2.1 hc ((hK.2 0 (gT Γ 100, .int) rfl).1 m _) (fun q => by cases q) (by rw [arrV_size]; exact vp_in_nI hj hm) rfl rfl hd fun H1 e z oq => ?_
  refine kk H1 _ ls (hW.put (i := i) z oq ?_ (fun a ha => ⟨?_, rfl, rfl⟩)) (hS.put z oq (Nat.le_add_right _ _)) hl
  · rw [cel_i hk (by decide) (by decide)]
    show H1[gz Γ + i]? = some (vp_cell _ _)
    rw [e, vp_cell_i, arrV_store, hcl]
    congr 2
    funext q
    by_cases hq : q = j
    · subst hq; simp [updV, up2]
    · simp [updV, up2, hq]
  · funext b; simp [up2, ha]
theorem w_bast (C : Cx Γ own cc nL ret rm nm) {i m j : Nat} {x y : Int32} (hd : decode cc pc = .ok (.bastore, 1)) (hk : K i = (101, m)) (hx : x = nI j) (hj : j < m) (hm : m < 2 ^ 31) (hp : pc + 1 = pc2) (kk : wp Γ cells slots Q pc2 lo st n K (up2 I i j (vp_nar .byte y)) L R) : wp Γ cells slots Q pc lo (.int y :: .int x :: .ref i :: st) n K I L R := by
  subst hp; subst hx; intro H locs ls hW hS hl
  have hi : i < n := hW.lt hk (by simp)
  have hat := hW.2.2 i _ (wl_get hi)
  rw [cel_i hk (by decide) (by decide)] at hat
  have hc : H[gz Γ + i]? = some (arrV (gT Γ 101) m (fun j => .int (I i j))) := hat
  have hK := C.2.2.2.2.2.2.2.1.1
  have hcl : (nI j).toNatClampNeg = j := nI_clamp (by omega)
  refine W.bast C.1 C.2.1 hc ((hK.2 1 (gT Γ 101, .byte) rfl).1 m _) (fun q => by cases q) (by rw [arrV_size]; exact vp_in_nI hj hm) rfl rfl hd fun H1 e z oq => ?_
  refine kk H1 _ ls (hW.put (i := i) z oq ?_ (fun a ha => ⟨?_, rfl, rfl⟩)) (hS.put z oq (Nat.le_add_right _ _)) hl
  · rw [cel_i hk (by decide) (by decide)]
    show H1[gz Γ + i]? = some (vp_cell _ _)
    rw [e, vp_cell_i, arrV_store, hcl]
    congr 2
    funext q
    by_cases hq : q = j
    · subst hq; simp [updV, up2, vp_nar]; try rfl
    · simp [updV, up2, hq]
  · funext b; simp [up2, ha]
theorem w_zast (C : Cx Γ own cc nL ret rm nm) {i m j : Nat} {x y : Int32} (hd : decode cc pc = .ok (.bastore, 1)) (hk : K i = (102, m)) (hx : x = nI j) (hj : j < m) (hm : m < 2 ^ 31) (hp : pc + 1 = pc2) (kk : wp Γ cells slots Q pc2 lo st n K (up2 I i j (vp_nar .boolean y)) L R) : wp Γ cells slots Q pc lo (.int y :: .int x :: .ref i :: st) n K I L R := by
  subst hp; subst hx; intro H locs ls hW hS hl
  have hi : i < n := hW.lt hk (by simp)
  have hat := hW.2.2 i _ (wl_get hi)
  rw [cel_i hk (by decide) (by decide)] at hat
  have hc : H[gz Γ + i]? = some (arrV (gT Γ 102) m (fun j => .int (I i j))) := hat
  have hK := C.2.2.2.2.2.2.2.1.1
  have hcl : (nI j).toNatClampNeg = j := nI_clamp (by omega)
  refine W.zast C.1 C.2.1 hc ((hK.2 2 (gT Γ 102, .boolean) rfl).1 m _) (fun q => by cases q) (by rw [arrV_size]; exact vp_in_nI hj hm) rfl rfl hd fun H1 e z oq => ?_
  refine kk H1 _ ls (hW.put (i := i) z oq ?_ (fun a ha => ⟨?_, rfl, rfl⟩)) (hS.put z oq (Nat.le_add_right _ _)) hl
  · rw [cel_i hk (by decide) (by decide)]
    show H1[gz Γ + i]? = some (vp_cell _ _)
    rw [e, vp_cell_i, arrV_store, hcl]
    congr 2
    funext q
    by_cases hq : q = j
    · subst hq; simp [updV, up2, vp_nar]; try rfl
    · simp [updV, up2, hq]
  · funext b; simp [up2, ha]
theorem w_last (C : Cx Γ own cc nL ret rm nm) {i m j : Nat} {x : Int32} {y : Int64} (hd : decode cc pc = .ok (.lastore, 1)) (hk : K i = (103, m)) (hx : x = nI j) (hj : j < m) (hm : m < 2 ^ 31) (hp : pc + 1 = pc2) (kk : wp Γ cells slots Q pc2 lo st n K I (up2 L i j y) R) : wp Γ cells slots Q pc lo (.long y :: .int x :: .ref i :: st) n K I L R := by
  subst hp; subst hx; intro H locs ls hW hS hl
  have hi : i < n := hW.lt hk (by simp)
  have hat := hW.2.2 i _ (wl_get hi)
  rw [cel_l hk] at hat
  have hc : H[gz Γ + i]? = some (arrV (gT Γ 103) m (fun j => .long (L i j))) := hat
  have hK := C.2.2.2.2.2.2.2.1.1
  have hcl : (nI j).toNatClampNeg = j := nI_clamp (by omega)
  refine W.last C.1 C.2.1 hc ((hK.2 3 (gT Γ 103, .long) rfl).1 m _) (fun q => by cases q) (by rw [arrV_size]; exact vp_in_nI hj hm) rfl rfl hd fun H1 e z oq => ?_
  refine kk H1 _ ls (hW.put (i := i) z oq ?_ (fun a ha => ⟨rfl, ?_, rfl⟩)) (hS.put z oq (Nat.le_add_right _ _)) hl
  · rw [cel_l hk]
    show H1[gz Γ + i]? = some (vp_cell _ _)
    rw [e, vp_cell_l, arrV_store, hcl]
    congr 2
    funext q
    by_cases hq : q = j
    · subst hq; simp [updV, up2]
    · simp [updV, up2, hq]
  · funext b; simp [up2, ha]
/-- a Matter into the array of Matters -/
theorem w_aast (C : Cx Γ own cc nL ret rm nm) {i m j v m2 : Nat} {x : Int32} (hd : decode cc pc = .ok (.aastore, 1)) (hk : K i = (104, m)) (hkv : K v = (2, m2)) (hx : x = nI j) (hj : j < m) (hm : m < 2 ^ 31) (hp : pc + 1 = pc2) (kk : wp Γ cells slots Q pc2 lo st n K I L (up2 R i j (some v))) : wp Γ cells slots Q pc lo (.ref v :: .int x :: .ref i :: st) n K I L R := by
  subst hp; subst hx; intro H locs ls hW hS hl
  have hi : i < n := hW.lt hk (by simp)
  have hv : v < n := hW.lt hkv (by simp)
  have hat := hW.2.2 i _ (wl_get hi)
  rw [cel_r hk (by decide)] at hat
  have hc : H[gz Γ + i]? = some (arrV (gT Γ 104) m (fun j => va_rf (zo (gz Γ) (R i j)))) := hat
  have hatv := hW.2.2 v _ (wl_get hv)
  rw [cel_o hkv (by decide)] at hatv
  obtain ⟨r2, hr2, cellV, g1, g2, g3, -⟩ := hatv
  have hK := C.2.2.2.2.2.2.2.1.1
  have hcl : (nI j).toNatClampNeg = j := nI_clamp (by omega)
  have hcls := (hK.1 2 (RX2, TX2, 8) rfl).2
  obtain ⟨kA, comp, k1, k2, k3, -⟩ := (hK.2 4 (gT Γ 104, .object RX2) rfl).2
  have hcomp : comp = (gD Γ).1 2 := Option.some.inj (k3.symm.trans hcls.1)
  subst hcomp
  obtain ⟨kC, hkC, -⟩ := hcls.2
  refine W.aast C.1 C.2.1 hc (fun q h => by cases h) (fun h => by cases h) k1 k2 rfl hkC ⟨fun h => (vp_in_nI hj hm) (Or.inl h), by rw [arrV_size, hcl]; exact hj⟩ g1 (fun q h => by rw [g3] at h; cases h) (by rw [g2]; exact hkC) (by rw [g2]; exact va_assign hcls) rfl rfl hd fun H1 e z oq => ?_
  refine kk H1 _ ls (hW.put (i := i) z oq ?_ (fun a ha => ⟨rfl, rfl, ?_⟩)) (hS.put z oq (Nat.le_add_right _ _)) hl
  · rw [cel_r hk (by decide)]
    show H1[gz Γ + i]? = some (vp_cell _ _)
    rw [e, vp_cell_q, arrV_store, hcl]
    congr 2
    funext q
    by_cases hq : q = j
    · subst hq; simp [updV, up2, va_rf, zo]
    · simp [updV, up2, hq]
  · funext b; simp [up2, ha]
end HEAP
