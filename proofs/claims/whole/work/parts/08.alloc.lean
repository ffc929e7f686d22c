/-! ===== what is made; the JDK's own methods ===== -/
theorem HW.push {D : va_G} {cT : Nat → ClassId} {z n : Nat} {K : wKd} {I : wIn} {L : wLn} {R : wRf} {H H1 : Heap} {κ : Nat × Nat} {I1 : Nat → Int32} {L1 : Nat → Int64} {R1 : Nat → Option Nat} (h : HW D cT z n K I L R H) (hz : H1.size = H.size + 1) (ho : ∀ q, q < H.size → H1[q]? = H[q]?) (hat : va_at D vwCl (z + n, cel cT z κ I1 L1 R1) H1) : HW D cT z (n + 1) (up1 K n κ) (up1 I n I1) (up1 L n L1) (up1 R n R1) H1 := by
  refine ⟨by rw [hz, h.1]; omega, fun i hi => by rw [up1_n _ _ _ (by omega)]; exact h.2.1 i (by omega), fun k q hk => ?_⟩
  obtain ⟨hkn, rfl⟩ := wl_at hk
  by_cases e : k = n
  · subst e
    rw [up1_s, up1_s, up1_s, up1_s]
    exact hat
  · rw [up1_n _ _ _ e, up1_n _ _ _ e, up1_n _ _ _ e, up1_n _ _ _ e]
    have hk2 : k < n := by omega
    exact (h.2.2 k _ (wl_get hk2)).kept (ho _ (by show z + k < H.size; rw [h.1]; omega))
theorem va_S.grow {A : Nat → Prop} {H0 H H1 : Heap} {locs : List Loc} (hS : va_S A H0 H locs) (hz : H.size ≤ H1.size) (ho : ∀ q, q < H.size → H1[q]? = H[q]?) : va_S A H0 H1 locs := ⟨Nat.le_trans hS.1 hz, fun x h1 h2 => (ho x (Nat.lt_of_lt_of_le h1 hS.1)).trans (hS.2.1 x h1 h2), hS.2.2⟩
def NWk (own : String) (idx ci N : Nat) : Prop := ∃ (C : String) (T : u_T) (tyf : Nat → FieldType), ClOK ci C T N tyf ∧ Cond.classLink own idx C ∈ tg ∧ Cond.instantiable C N ∈ tg ∧ Cond.initialized C ∈ tg ∧ ∀ j, j < N → defaultValue (tyf j) = vp_V (flds 0 (fun _ => 0) (fun _ => none) (FK ci) 0) j
theorem flds_0 (z : Nat) : ∀ (l : List Nat) (k : Nat), flds z (fun _ => 0) (fun _ => none) l k = flds 0 (fun _ => 0) (fun _ => none) l k
  | [], _ => rfl
  | f :: l, k => by simp only [flds, flds_0 z l (k + 1)]; rfl
section ALLOC
variable {Γ : Gm} {own : String} {cc : ByteArray} {nL : Nat} {ret : Option FieldType} {rm : Room} {nm : String} {cells slots pc pc2 : Nat} {Q : State → Prop} {lo : List (Option Value)} {st : List Value} {n : Nat} {K : wKd} {I : wIn} {L : wLn} {R : wRf}
theorem w_new (C : Cx Γ own cc nL ret rm nm) {idx ci N : Nat} (hd : decode cc pc = .ok (.new idx, 3)) (hN : NWk own idx ci N) (hc : cells + 1 ≤ rm.cells) (hs : slots + N ≤ rm.slots) (hp : pc + 3 = pc2) (kk : wp Γ (cells + 1) (slots + N) Q pc2 lo (.ref n :: st) (n + 1) (up1 K n (ci, 0)) (up1 I n (fun _ => 0)) (up1 L n (fun _ => 0)) (up1 R n (fun _ => none))) : wp Γ cells slots Q pc lo st n K I L R := by
  subst hp; intro H locs ls hW hS hl
  obtain ⟨Cn, T, tyf, ⟨h1, h2, h3, h4, h5, h6⟩, h7, h8, h9, h10⟩ := hN
  have hts := C.2.2.2.2.2.1
  have hKK := C.2.2.2.2.2.2.2.1.1
  have hRr := C.2.2.2.2.2.2.2.2.1
  have hKn := hKK.1 ci _ h1
  refine W.newcK C.1 C.2.1 C.2.2.2.2.1 (hts _ h7) (hts _ h8) (hts _ h9) rfl hd (by rw [hRr]; exact hc) (by rw [hRr]; exact hs) hKn.2.1 hW.1 fun H1 kC hkC e1 z1 o1 => ?_
  have o2 : ∀ q, q < H.size → H1[q]? = H[q]? := fun q hq => o1 q (by rw [← hW.1]; exact hq)
  refine kk H1 locs ls (hW.push (by rw [z1, hW.1]) o2 ?_) (hS.grow (by rw [z1, hW.1]; omega) o2) hl
  rw [cel_o rfl h5, flds_0]
  exact ⟨_, h1, (u_born tyf hts h2 hKn hkC e1 h3).to h10⟩
/-- arrays of numbers: 100 int, 101 byte, 102 boolean, 103 long -/
theorem w_newarr (C : Cx Γ own cc nL ret rm nm) {aty : ArrayType} {t m : Nat} {x : Int32} (hd : decode cc pc = .ok (.newarray aty, 2)) (ht : (t = 100 ∧ aty = .int) ∨ (t = 101 ∧ aty = .byte) ∨ (t = 102 ∧ aty = .boolean) ∨ (t = 103 ∧ aty = .long)) (hac : Cond.arrayClass (newarray.typeOf aty) ∈ tg) (hx : x = nI m) (hm : m ≤ 2000000) (hc : cells + 1 ≤ rm.cells) (hs : slots + m ≤ rm.slots) (hp : pc + 2 = pc2) (kk : wp Γ (cells + 1) (slots + m) Q pc2 lo (.ref n :: st) (n + 1) (up1 K n (t, m)) (up1 I n (fun _ => 0)) (up1 L n (fun _ => 0)) (up1 R n (fun _ => none))) : wp Γ cells slots Q pc lo (.int x :: st) n K I L R := by
  subst hp; subst hx; intro H locs ls hW hS hl
  have hts := C.2.2.2.2.2.1
  have hKK := C.2.2.2.2.2.2.2.1.1
  have hRr := C.2.2.2.2.2.2.2.2.1
  have hcl : (nI m).toNatClampNeg = m := nI_clamp (by omega)
  have hb : m * componentBytes (newarray.typeOf aty) ≤ 536870912 := by
    rcases ht with ⟨-, e⟩ | ⟨-, e⟩ | ⟨-, e⟩ | ⟨-, e⟩ <;> subst e
    · show m * 4 ≤ _; omega
    · show m * 1 ≤ _; omega
    · show m * 1 ≤ _; omega
    · show m * 8 ≤ _; omega
  refine va_newaK C.1 C.2.1 (hts _ hac) rfl hd rfl (nI_pos (by omega)) hcl hb (by rw [hRr]; exact hc) (by rw [hRr]; exact hs) hW.1 fun H1 cA e1 z1 o1 hAr hNm => ?_
  have o2 : ∀ q, q < H.size → H1[q]? = H[q]? := fun q hq => o1 q (by rw [← hW.1]; exact hq)
  refine kk H1 locs ls (hW.push (by rw [z1, hW.1]) o2 ?_) (hS.grow (by rw [z1, hW.1]; omega) o2) hl
  rcases ht with ⟨e, e2⟩ | ⟨e, e2⟩ | ⟨e, e2⟩ | ⟨e, e2⟩ <;> subst e <;> subst e2
  · rw [cel_i rfl (by decide) (by decide)]
    have hA : cA = gT Γ 100 := Option.some.inj (hNm.symm.trans (hKK.2 0 (gT Γ 100, .int) rfl).2)
    rw [← hA]; exact e1
  · rw [cel_i rfl (by decide) (by decide)]
    have hA : cA = gT Γ 101 := Option.some.inj (hNm.symm.trans (hKK.2 1 (gT Γ 101, .byte) rfl).2)
    rw [← hA]; exact e1
  · rw [cel_i rfl (by decide) (by decide)]
    have hA : cA = gT Γ 102 := Option.some.inj (hNm.symm.trans (hKK.2 2 (gT Γ 102, .boolean) rfl).2)
    rw [← hA]; exact e1
  · rw [cel_l rfl]
    have hA : cA = gT Γ 103 := Option.some.inj (hNm.symm.trans (hKK.2 3 (gT Γ 103, .long) rfl).2)
    rw [← hA]; exact e1
/-- the array of Matters -/
theorem w_anew (C : Cx Γ own cc nL ret rm nm) {idx m : Nat} {x : Int32} (hd : decode cc pc = .ok (.anewarray idx, 3)) (hcl : Cond.classLink own idx RX2 ∈ tg) (hx : x = nI m) (hm : m ≤ 2000000) (hc : cells + 1 ≤ rm.cells) (hs : slots + m ≤ rm.slots) (hp : pc + 3 = pc2) (kk : wp Γ (cells + 1) (slots + m) Q pc2 lo (.ref n :: st) (n + 1) (up1 K n (104, m)) (up1 I n (fun _ => 0)) (up1 L n (fun _ => 0)) (up1 R n (fun _ => none))) : wp Γ cells slots Q pc lo (.int x :: st) n K I L R := by
  subst hp; subst hx; intro H locs ls hW hS hl
  have hts := C.2.2.2.2.2.1
  have hKK := C.2.2.2.2.2.2.2.1
  have hRr := C.2.2.2.2.2.2.2.2.1
  have hcm : (nI m).toNatClampNeg = m := nI_clamp (by omega)
  refine W.anew C.1 C.2.1 C.2.2.2.2.1 (hts _ hcl) (va_AO.use hKK.2.2.1) rfl hd rfl (nI_pos (by omega)) (by rw [hcm]; omega) (by rw [hRr]; exact hc) (by rw [hRr, hcm]; exact hs) fun cA kA comp f1 f2 f3 f4 => ?_
  rw [hcm]
  generalize hH1 : H.push ({ cls := cA, slots := Array.replicate m .null, vm := .none } : Cell) = H1
  have z1 : H1.size = H.size + 1 := by rw [← hH1, Array.size_push]
  have e1 : H1[H.size]? = some (arrV cA m (fun _ => .null)) := by rw [← hH1, Array.getElem?_push_size, ← arrV_new]
  have o1 : ∀ q : Nat, q < H.size → H1[q]? = H[q]? := fun q hq => by rw [← hH1, Array.getElem?_push, if_neg (Nat.ne_of_lt hq)]
  have key := kk H1 locs ls (hW.push z1 o1 (by
    rw [cel_r rfl (by decide)]
    obtain ⟨_, _, _, _, _, hn2⟩ := (hKK.1.2 4 (gT Γ 104, .object RX2) rfl).2
    have hA : cA = gT Γ 104 := Option.some.inj (f1.symm.trans hn2)
    rw [← hA, ← hW.1]; exact e1)) (hS.grow (by omega) o1) hl
  rw [hW.1]
  exact key
/-- new int[2][m] -/
theorem w_mnew (C : Cx Γ own cc nL ret rm nm) {idx m : Nat} (hd : decode cc pc = .ok (.multianewarray idx 2, 4)) (hcl : Cond.classLink own idx "[[I" ∈ tg) (hac : Cond.arrayClass .int ∈ tg) (hm : m ≤ 2000000) (hc : cells + 3 ≤ rm.cells) (hs : slots + (2 + 2 * m) ≤ rm.slots) (hp : pc + 4 = pc2)
    (kk : wp Γ (cells + 3) (slots + (2 + 2 * m)) Q pc2 lo (.ref n :: st) (n + 3) (up1 (up1 (up1 K n (105, 2)) (n + 1) (100, m)) (n + 2) (100, m)) (up1 (up1 (up1 I n (fun _ => 0)) (n + 1) (fun _ => 0)) (n + 2) (fun _ => 0)) (up1 (up1 (up1 L n (fun _ => 0)) (n + 1) (fun _ => 0)) (n + 2) (fun _ => 0)) (up1 (up1 (up1 R n (fun j => if j < 2 then some (n + 1 + j) else none)) (n + 1) (fun _ => none)) (n + 2) (fun _ => none))) : wp Γ cells slots Q pc lo (.int (nI m) :: .int 2 :: st) n K I L R := by
  subst hp; intro H locs ls hW hS hl
  have hts := C.2.2.2.2.2.1
  have hKK := C.2.2.2.2.2.2.2.1
  have hRr := C.2.2.2.2.2.2.2.2.1
  have hcm : (nI m).toNatClampNeg = m := nI_clamp (by omega)
  have hc2 : (2 : Int32).toNatClampNeg = 2 := rfl
  intro T hT X
  obtain ⟨vm1, cA, comp, hwm, fA, fC, hO, hI, X2, step⟩ := X.multianewarray2F C.1 C.2.2.2.2.1 (own := own) (index := idx) (ty := .int) (hts _ hcl) (va_AOA.use hKK.2.2.2) (hts _ hac) (g := F0 (gm Γ) pc ls (.int (nI m) :: .int 2 :: st.map (cv (gz Γ)))) rfl (by rw [C.2.1]; exact hd) rfl (by decide) (nI_pos (by omega)) (by decide) (by rw [hcm]; show m * 4 ≤ _; omega) (by rw [hcm]; omega) rfl rfl (by rw [hRr, hc2]; exact hc) (by rw [hRr, hc2, hcm]; exact hs)
  rw [hcm, hc2] at X2 step
  obtain ⟨f1, f2, -, -⟩ := Jvm.Free.Multi.fill_facts (T.setVm vm1) cA comp 2 m (defaultValue .int) 2
  have hTh : (T.setVm vm1).heap = H := hT
  rw [hTh] at f1 f2
  have hin : ∀ j, j < 2 → (Jvm.Free.Multi.fill (T.setVm vm1) cA comp 2 m (defaultValue .int) 2).heap[H.size + 1 + j]? = some (Jvm.Free.Multi.innerC comp m (defaultValue .int)) := fun j hj => by
    have := Jvm.Free.Multi.fill_inner (T.setVm vm1) cA comp 2 m (defaultValue .int) 2 j hj
    rw [hTh] at this
    exact this
  have hold : ∀ q, q < H.size → (Jvm.Free.Multi.fill (T.setVm vm1) cA comp 2 m (defaultValue .int) 2).heap[q]? = H[q]? := fun q hq => by
    have := Jvm.Free.Multi.fill_old (T.setVm vm1) cA comp 2 m (defaultValue .int) (a := q) (by rw [hTh]; exact hq) 2
    rw [hTh] at this
    exact this
  generalize hF : (Jvm.Free.Multi.fill (T.setVm vm1) cA comp 2 m (defaultValue .int) 2) = F at *
  have hA : cA = gT Γ 105 := Option.some.inj (fA.symm.trans (hKK.1.2 5 (gT Γ 105, .array .int) rfl).2)
  have hB : comp = gT Γ 100 := Option.some.inj (fC.symm.trans (hKK.1.2 0 (gT Γ 100, .int) rfl).2)
  have hinner : Jvm.Free.Multi.innerC comp m (defaultValue .int) = vp_cell (gT Γ 100) (m, .inl (fun _ => 0)) := by
    rw [vp_cell_i, ← hB, ← arrV_new]; rfl
  rw [vr_outer] at f2
  have hHW : HW (gD Γ) (gT Γ) (gz Γ) (n + 3) (up1 (up1 (up1 K n (105, 2)) (n + 1) (100, m)) (n + 2) (100, m)) (up1 (up1 (up1 I n (fun _ => 0)) (n + 1) (fun _ => 0)) (n + 2) (fun _ => 0)) (up1 (up1 (up1 L n (fun _ => 0)) (n + 1) (fun _ => 0)) (n + 2) (fun _ => 0)) (up1 (up1 (up1 R n (fun j => if j < 2 then some (n + 1 + j) else none)) (n + 1) (fun _ => none)) (n + 2) (fun _ => none)) F.heap := by
    refine ⟨by rw [f1, hW.1]; omega, fun i hi => by rw [up1_n _ _ _ (by omega), up1_n _ _ _ (by omega), up1_n _ _ _ (by omega)]; exact hW.2.1 i (by omega), fun k q hk => ?_⟩
    obtain ⟨hkn, rfl⟩ := wl_at hk
    by_cases e2 : k = n + 2
    · subst e2
      simp only [up1_s]
      rw [cel_i rfl (by decide) (by decide)]
      have := hin 1 (by decide)
      rw [hinner, hW.1] at this
      exact this
    · by_cases e1 : k = n + 1
      · subst e1
        simp only [up1_n _ (n + 2) _ e2, up1_s]
        rw [cel_i rfl (by decide) (by decide)]
        have := hin 0 (by decide)
        rw [hinner, hW.1] at this
        exact this
      · by_cases e0 : k = n
        · subst e0
          simp only [up1_n _ (k + 2) _ e2, up1_n _ (k + 1) _ e1, up1_s]
          rw [cel_r rfl (by decide)]
          show F.heap[gz Γ + k]? = some (vp_cell (gT Γ 105) _)
          rw [vp_cell_q, ← hA, ← hW.1, f2]
          congr 2
          funext j
          by_cases hj : j < 2
          · rw [if_pos hj, if_pos hj]
            show Value.ref (H.size + 1 + j) = Value.ref (gz Γ + (k + 1 + j))
            have e5 : H.size + 1 + j = gz Γ + (k + 1 + j) := by rw [hW.1]; omega
            rw [e5]
          · simp [hj, zo, va_rf]
        · simp only [up1_n _ (n + 2) _ e2, up1_n _ (n + 1) _ e1, up1_n _ n _ e0]
          have hk2 : k < n := by omega
          exact (hW.2.2 k _ (wl_get hk2)).kept (hold _ (by show gz Γ + k < H.size; rw [hW.1]; omega))
  obtain ⟨t, a1, b1⟩ := kk F.heap locs ls hHW (hS.grow (by rw [f1]; omega) hold) hl F rfl (by
    have e : slots + (2 + 2 * m) = slots + 2 + 2 * m := by omega
    rw [e]; exact X2)
  refine ⟨t, step t ?_, b1⟩
  have e : T.heap.size = gz Γ + n := by rw [hT]; exact hW.1
  rw [e]
  exact a1
theorem w_objInit (C : Cx Γ own cc nL ret rm nm) {idx i : Nat} (hd : decode cc pc = .ok (.invokespecial idx, 3)) (hl1 : Cond.methodLink own idx objectInit ∈ tg) (hl2 : Cond.instanceMethod objectInit ∈ tg) (hl3 : Cond.code objectInit ⟨#[0xb1]⟩ 1 none ∈ tg) (hfr : 1 ≤ rm.frames) (hlo : (st.map fun v => v.category).sum + 12 ≤ rm.locals) (hp : pc + 3 = pc2) (kk : wp Γ cells slots Q pc2 lo st n K I L R) : wp Γ cells slots Q pc lo (.ref i :: st) n K I L R := by
  subst hp; intro H locs ls hW hS hl
  have hts := C.2.2.2.2.2.1
  have hRr := C.2.2.2.2.2.2.2.2.1
  have e : ((fun v : Value => v.category) ∘ cv (gz Γ)) = (fun v : Value => v.category) := funext (fun v => cv_cat (gz Γ) v)
  exact W.objInit C.1 C.2.1 C.2.2.2.2.1 (hts _ hl1) (hts _ hl2) (hts _ hl3) rfl hl.1 rfl hd (by rw [hRr]; exact hfr) (by rw [hRr, List.map_map, e]; show 2 * 0 + _ + 12 ≤ _; omega) (kk H locs ls hW hS hl)
theorem w_mmax (C : Cx Γ own cc nL ret rm nm) {idx : Nat} {x y : Int32} (hd : decode cc pc = .ok (.invokestatic idx, 3)) (hl1 : Cond.methodLink own idx Lib.Math.max.name ∈ tg) (hl2 : Cond.static Lib.Math.max.name ∈ tg) (hl3 : Cond.initialized "java/lang/Math" ∈ tg) (hl4 : Cond.code Lib.Math.max.name Lib.Math.max.code 2 (some .int) ∈ tg) (hfr : 1 ≤ rm.frames) (hlo : (st.map fun v => v.category).sum + 13 ≤ rm.locals) (hc : cells ≤ rm.cells) (hs : slots ≤ rm.slots) (hp : pc + 3 = pc2) (kk : wp Γ cells slots Q pc2 lo (.int (if x < y then y else x) :: st) n K I L R) : wp Γ cells slots Q pc lo (.int y :: .int x :: st) n K I L R := by
  subst hp; intro H locs ls hW hS hl
  have hts := C.2.2.2.2.2.1
  have hRr := C.2.2.2.2.2.2.2.2.1
  have e : ((fun v : Value => v.category) ∘ cv (gz Γ)) = (fun v : Value => v.category) := funext (fun v => cv_cat (gz Γ) v)
  exact va_mmax C.1 C.2.1 hl.1.symm C.2.2.2.2.1 (hts _ hl1) (hts _ hl2) (hts _ hl3) (hts _ hl4) (by rw [hRr]; exact hfr) (by rw [hRr, List.map_map, e]; exact hlo) (by rw [hRr]; exact hc) (by rw [hRr]; exact hs) hd (kk H locs ls hW hS hl)
theorem w_mmin (C : Cx Γ own cc nL ret rm nm) {idx : Nat} {x y : Int32} (hd : decode cc pc = .ok (.invokestatic idx, 3)) (hl1 : Cond.methodLink own idx Lib.Math.min.name ∈ tg) (hl2 : Cond.static Lib.Math.min.name ∈ tg) (hl3 : Cond.initialized "java/lang/Math" ∈ tg) (hl4 : Cond.code Lib.Math.min.name Lib.Math.min.code 2 (some .int) ∈ tg) (hfr : 1 ≤ rm.frames) (hlo : (st.map fun v => v.category).sum + 13 ≤ rm.locals) (hc : cells ≤ rm.cells) (hs : slots ≤ rm.slots) (hp : pc + 3 = pc2) (kk : wp Γ cells slots Q pc2 lo (.int (if y < x then y else x) :: st) n K I L R) : wp Γ cells slots Q pc lo (.int y :: .int x :: st) n K I L R := by
  subst hp; intro H locs ls hW hS hl
  have hts := C.2.2.2.2.2.1
  have hRr := C.2.2.2.2.2.2.2.2.1
  have e : ((fun v : Value => v.category) ∘ cv (gz Γ)) = (fun v : Value => v.category) := funext (fun v => cv_cat (gz Γ) v)
  exact va_mmin C.1 C.2.1 hl.1.symm C.2.2.2.2.1 (hts _ hl1) (hts _ hl2) (hts _ hl3) (hts _ hl4) (by rw [hRr]; exact hfr) (by rw [hRr, List.map_map, e]; exact hlo) (by rw [hRr]; exact hc) (by rw [hRr]; exact hs) hd (kk H locs ls hW hS hl)
theorem w_mabs (C : Cx Γ own cc nL ret rm nm) {idx : Nat} {x : Int32} (hd : decode cc pc = .ok (.invokestatic idx, 3)) (hl1 : Cond.methodLink own idx Lib.Math.abs.name ∈ tg) (hl2 : Cond.static Lib.Math.abs.name ∈ tg) (hl3 : Cond.initialized "java/lang/Math" ∈ tg) (hl4 : Cond.code Lib.Math.abs.name Lib.Math.abs.code 1 (some .int) ∈ tg) (hfr : 1 ≤ rm.frames) (hlo : (st.map fun v => v.category).sum + 13 ≤ rm.locals) (hc : cells ≤ rm.cells) (hs : slots ≤ rm.slots) (hp : pc + 3 = pc2) (kk : wp Γ cells slots Q pc2 lo (.int (if 0 ≤ x then x else 0 - x) :: st) n K I L R) : wp Γ cells slots Q pc lo (.int x :: st) n K I L R := by
  subst hp; intro H locs ls hW hS hl
  have hts := C.2.2.2.2.2.1
  have hRr := C.2.2.2.2.2.2.2.2.1
  have e : ((fun v : Value => v.category) ∘ cv (gz Γ)) = (fun v : Value => v.category) := funext (fun v => cv_cat (gz Γ) v)
  exact va_mabs C.1 C.2.1 hl.1.symm C.2.2.2.2.1 (hts _ hl1) (hts _ hl2) (hts _ hl3) (hts _ hl4) (by rw [hRr]; exact hfr) (by rw [hRr, List.map_map, e]; exact hlo) (by rw [hRr]; exact hc) (by rw [hRr]; exact hs) hd (kk H locs ls hW hS hl)
end ALLOC
