section MORE
variable {Γ : Gm} {own : String} {cc : ByteArray} {nL : Nat} {ret : Option FieldType} {rm : Room} {nm : String} {cells slots pc pc2 : Nat} {Q : State → Prop} {lo : List (Option Value)} {st : List Value} {n : Nat} {K : wKd} {I : wIn} {L : wLn} {R : wRf}
/-- System.arraycopy(a, 0, b, 0, c) -/
theorem w_copyI (C : Cx Γ own cc nL ret rm nm) {idx i j m1 m2 c : Nat} {x : Int32} (hd : decode cc pc = .ok (.invokestatic idx, 3)) (hl1 : Cond.methodLink own idx arraycopyName ∈ tg) (hl2 : Cond.native arraycopyName ∈ tg) (hl3 : Cond.static arraycopyName ∈ tg) (hl4 : Cond.initialized "java/lang/System" ∈ tg) (hk1 : K i = (100, m1)) (hk2 : K j = (100, m2)) (hx : x = nI c) (hc1 : c ≤ m1) (hc2 : c ≤ m2) (hm : c < 2 ^ 31) (hfr : 1 ≤ rm.frames) (hlo : (st.map fun v => v.category).sum + 18 ≤ rm.locals) (hp : pc + 3 = pc2)
    (kk : wp Γ cells slots Q pc2 lo st n K (up1 I j (fun q => if q < c then I i q else I j q)) L R) : wp Γ cells slots Q pc lo (.int x :: .int 0 :: .ref j :: .int 0 :: .ref i :: st) n K I L R := by
  subst hp; subst hx; intro H locs ls hW hS hl
  have hts := C.2.2.2.2.2.1
  have hKK := C.2.2.2.2.2.2.2.1.1
  have hRr := C.2.2.2.2.2.2.2.2.1
  have hi : i < n := hW.lt hk1 (by simp)
  have hj : j < n := hW.lt hk2 (by simp)
  have e : ((fun v : Value => v.category) ∘ cv (gz Γ)) = (fun v : Value => v.category) := funext (fun v => cv_cat (gz Γ) v)
  have hcl : (nI c).toNatClampNeg = c := nI_clamp (by omega)
  have hcI : (nI c).toInt = (c : Int) := nI_toInt hm
  have hati := hW.2.2 i _ (wl_get hi)
  rw [cel_i hk1 (by decide) (by decide)] at hati
  have hatj := hW.2.2 j _ (wl_get hj)
  rw [cel_i hk2 (by decide) (by decide)] at hatj
  have h0 : H[gz Γ + i]? = some (vp_cell (gT Γ 100) (m1, .inl (I i))) := hati
  have h1 : H[gz Γ + j]? = some (vp_cell (gT Γ 100) (m2, .inl (I j))) := hatj
  obtain ⟨-, k0, hk0, cm0, hkk0⟩ := (hKK.2 0 (gT Γ 100, .int) rfl).1 m1 (fun q => .int (I i q))
  intro T hT X
  obtain ⟨vm2, X2, step⟩ := X.arraycopy C.1 C.2.2.2.2.1 (hts _ hl1) (hts _ hl2) (hts _ hl3) (hts _ hl4) (src := gz Γ + i) (dst := gz Γ + j) (cs := vp_cell (gT Γ 100) (m1, .inl (I i))) (cd := vp_cell (gT Γ 100) (m2, .inl (I j))) (srcPos := 0) (destPos := 0) (n := nI c) (by rw [hT]; exact h0) (by rw [hT]; exact h1)
    (fun _ h => by cases h) (fun _ h => by cases h) (fun h => by cases h) (fun h => by cases h) hk0 hk0 hkk0 hkk0 (by rfl) (by decide) (by decide) (nI_pos hm)
    (by rw [hcI]; show ¬ (0 : Int) + _ > ((arrV (gT Γ 100) m1 (fun q => .int (I i q))).slots.size : Int); rw [arrV_size]; omega)
    (by rw [hcI]; show ¬ (0 : Int) + _ > ((arrV (gT Γ 100) m2 (fun q => .int (I j q))).slots.size : Int); rw [arrV_size]; omega)
    (fun vm3 _ q hq => by
      rw [hcl] at hq
      have e2 : (vp_cell (gT Γ 100) (m1, .inl (I i))).slots.getD ((0 : Int32).toNatClampNeg + q) .null = .int (I i (0 + q)) := by
        show (arrV (gT Γ 100) m1 (fun q => .int (I i q))).slots.getD (0 + q) _ = _
        rw [Array.getD_eq_getD_getElem?, arrV_read _ _ (by omega)]
        rfl
      rw [e2]
      exact ⟨rfl, trivial⟩)
    (g := F0 (gm Γ) pc ls (.int (nI c) :: .int 0 :: .ref (gz Γ + j) :: .int 0 :: .ref (gz Γ + i) :: st.map (cv (gz Γ)))) rfl hl.1 (rest := st.map (cv (gz Γ))) rfl (by rw [C.2.1]; exact hd) (by rw [hRr]; exact hfr) (by rw [hRr, List.map_map, e]; show 2 * 0 + _ + 18 ≤ _; rw [Nat.mul_zero, Nat.zero_add]; exact hlo)
  have e1 : copied (vp_cell (gT Γ 100) (m1, .inl (I i))) (vp_cell (gT Γ 100) (m2, .inl (I j))) 0 0 (nI c) = vp_cell (gT Γ 100) (m2, .inl (va_cpy (I i) (I j) 0 0 c)) := by
    have := va_copied (fun z => .int z) (gT Γ 100) (gT Γ 100) (n0 := m1) (n1 := m2) (sp := 0) (dp := 0) (n := c) (I i) (I j) (by omega)
    unfold copied
    rw [hcl]
    exact this
  rw [e1] at X2 step
  have hlt : gz Γ + j < H.size := (Array.getElem?_eq_some_iff.mp h1).1
  have hheap : ((T.setVm vm2).setCell (gz Γ + j) (vp_cell (gT Γ 100) (m2, .inl (va_cpy (I i) (I j) 0 0 c)))).heap = H.setIfInBounds (gz Γ + j) (vp_cell (gT Γ 100) (m2, .inl (va_cpy (I i) (I j) 0 0 c))) := by rw [← hT]; rfl
  have oq : ∀ q : Nat, q ≠ gz Γ + j → (H.setIfInBounds (gz Γ + j) (vp_cell (gT Γ 100) (m2, .inl (va_cpy (I i) (I j) 0 0 c))))[q]? = H[q]? := fun q hq => by simp [Array.getElem?_setIfInBounds, Ne.symm hq]
  obtain ⟨t, a1, b1⟩ := kk _ _ ls (hW.put (i := j) (H1 := H.setIfInBounds (gz Γ + j) (vp_cell (gT Γ 100) (m2, .inl (va_cpy (I i) (I j) 0 0 c)))) (by simp) oq (by
      rw [cel_i hk2 (by decide) (by decide), up1_s]
      show (H.setIfInBounds (gz Γ + j) _)[gz Γ + j]? = some (vp_cell _ _)
      rw [Array.getElem?_setIfInBounds, if_pos rfl, if_pos hlt]
      congr 4
      funext q
      simp [va_cpy]) (fun a ha => ⟨up1_n _ _ _ ha, rfl, rfl⟩)) ⟨by simp; exact hS.1, fun q g1 g2 => by
      rw [oq q (fun e => g2 (by rw [e]; exact Nat.le_add_right _ _))]
      exact hS.2.1 q g1 g2, fun q hq => by
      rcases List.mem_append.mp hq with h | h
      · exact hS.2.2 q h
      · obtain ⟨z, -, hz⟩ := List.mem_map.mp h
        rw [← hz]
        exact Nat.le_add_right _ _⟩ hl _ hheap X2
  exact ⟨t, step t a1, b1⟩
/-- System.arraycopy(a, 0, b, 0, c) -/
theorem w_copyL (C : Cx Γ own cc nL ret rm nm) {idx i j m1 m2 c : Nat} {x : Int32} (hd : decode cc pc = .ok (.invokestatic idx, 3)) (hl1 : Cond.methodLink own idx arraycopyName ∈ tg) (hl2 : Cond.native arraycopyName ∈ tg) (hl3 : Cond.static arraycopyName ∈ tg) (hl4 : Cond.initialized "java/lang/System" ∈ tg) (hk1 : K i = (103, m1)) (hk2 : K j = (103, m2)) (hx : x = nI c) (hc1 : c ≤ m1) (hc2 : c ≤ m2) (hm : c < 2 ^ 31) (hfr : 1 ≤ rm.frames) (hlo : (st.map fun v => v.category).sum + 18 ≤ rm.locals) (hp : pc + 3 = pc2)
    (kk : wp Γ cells slots Q pc2 lo st n K I (up1 L j (fun q => if q < c then L i q else L j q)) R) : wp Γ cells slots Q pc lo (.int x :: .int 0 :: .ref j :: .int 0 :: .ref i :: st) n K I L R := by
  subst hp; subst hx; intro H locs ls hW hS hl
  have hts := C.2.2.2.2.2.1
  have hKK := C.2.2.2.2.2.2.2.1.1
  have hRr := C.2.2.2.2.2.2.2.2.1
  have hi : i < n := hW.lt hk1 (by simp)
  have hj : j < n := hW.lt hk2 (by simp)
  have e : ((fun v : Value => v.category) ∘ cv (gz Γ)) = (fun v : Value => v.category) := funext (fun v => cv_cat (gz Γ) v)
  have hcl : (nI c).toNatClampNeg = c := nI_clamp (by omega)
  have hcI : (nI c).toInt = (c : Int) := nI_toInt hm
  have hati := hW.2.2 i _ (wl_get hi)
  rw [cel_l hk1] at hati
  have hatj := hW.2.2 j _ (wl_get hj)
  rw [cel_l hk2] at hatj
  have h0 : H[gz Γ + i]? = some (vp_cell (gT Γ 103) (m1, .inr (.inl (L i)))) := hati
  have h1 : H[gz Γ + j]? = some (vp_cell (gT Γ 103) (m2, .inr (.inl (L j)))) := hatj
  obtain ⟨-, k0, hk0, cm0, hkk0⟩ := (hKK.2 3 (gT Γ 103, .long) rfl).1 m1 (fun q => .long (L i q))
  intro T hT X
  obtain ⟨vm2, X2, step⟩ := X.arraycopy C.1 C.2.2.2.2.1 (hts _ hl1) (hts _ hl2) (hts _ hl3) (hts _ hl4) (src := gz Γ + i) (dst := gz Γ + j) (cs := vp_cell (gT Γ 103) (m1, .inr (.inl (L i)))) (cd := vp_cell (gT Γ 103) (m2, .inr (.inl (L j)))) (srcPos := 0) (destPos := 0) (n := nI c) (by rw [hT]; exact h0) (by rw [hT]; exact h1)
    (fun _ h => by cases h) (fun _ h => by cases h) (fun h => by cases h) (fun h => by cases h) hk0 hk0 hkk0 hkk0 (by rfl) (by decide) (by decide) (nI_pos hm)
    (by rw [hcI]; show ¬ (0 : Int) + _ > ((arrV (gT Γ 103) m1 (fun q => .long (L i q))).slots.size : Int); rw [arrV_size]; omega)
    (by rw [hcI]; show ¬ (0 : Int) + _ > ((arrV (gT Γ 103) m2 (fun q => .long (L j q))).slots.size : Int); rw [arrV_size]; omega)
    (fun vm3 _ q hq => by
      rw [hcl] at hq
      have e2 : (vp_cell (gT Γ 103) (m1, .inr (.inl (L i)))).slots.getD ((0 : Int32).toNatClampNeg + q) .null = .long (L i (0 + q)) := by
        show (arrV (gT Γ 103) m1 (fun q => .long (L i q))).slots.getD (0 + q) _ = _
        rw [Array.getD_eq_getD_getElem?, arrV_read _ _ (by omega)]
        rfl
      rw [e2]
      exact ⟨rfl, trivial⟩)
    (g := F0 (gm Γ) pc ls (.int (nI c) :: .int 0 :: .ref (gz Γ + j) :: .int 0 :: .ref (gz Γ + i) :: st.map (cv (gz Γ)))) rfl hl.1 (rest := st.map (cv (gz Γ))) rfl (by rw [C.2.1]; exact hd) (by rw [hRr]; exact hfr) (by rw [hRr, List.map_map, e]; show 2 * 0 + _ + 18 ≤ _; rw [Nat.mul_zero, Nat.zero_add]; exact hlo)
  have e1 : copied (vp_cell (gT Γ 103) (m1, .inr (.inl (L i)))) (vp_cell (gT Γ 103) (m2, .inr (.inl (L j)))) 0 0 (nI c) = vp_cell (gT Γ 103) (m2, .inr (.inl (va_cpy (L i) (L j) 0 0 c))) := by
    have := va_copied (fun z => .long z) (gT Γ 103) (gT Γ 103) (n0 := m1) (n1 := m2) (sp := 0) (dp := 0) (n := c) (L i) (L j) (by omega)
    unfold copied
    rw [hcl]
    exact this
  rw [e1] at X2 step
  have hlt : gz Γ + j < H.size := (Array.getElem?_eq_some_iff.mp h1).1
  have hheap : ((T.setVm vm2).setCell (gz Γ + j) (vp_cell (gT Γ 103) (m2, .inr (.inl (va_cpy (L i) (L j) 0 0 c))))).heap = H.setIfInBounds (gz Γ + j) (vp_cell (gT Γ 103) (m2, .inr (.inl (va_cpy (L i) (L j) 0 0 c)))) := by rw [← hT]; rfl
  have oq : ∀ q : Nat, q ≠ gz Γ + j → (H.setIfInBounds (gz Γ + j) (vp_cell (gT Γ 103) (m2, .inr (.inl (va_cpy (L i) (L j) 0 0 c)))))[q]? = H[q]? := fun q hq => by simp [Array.getElem?_setIfInBounds, Ne.symm hq]
  obtain ⟨t, a1, b1⟩ := kk _ _ ls (hW.put (i := j) (H1 := H.setIfInBounds (gz Γ + j) (vp_cell (gT Γ 103) (m2, .inr (.inl (va_cpy (L i) (L j) 0 0 c))))) (by simp) oq (by
      rw [cel_l hk2, up1_s]
      show (H.setIfInBounds (gz Γ + j) _)[gz Γ + j]? = some (vp_cell _ _)
      rw [Array.getElem?_setIfInBounds, if_pos rfl, if_pos hlt]
      congr 5
      funext q
      simp [va_cpy]) (fun a ha => ⟨rfl, up1_n _ _ _ ha, rfl⟩)) ⟨by simp; exact hS.1, fun q g1 g2 => by
      rw [oq q (fun e => g2 (by rw [e]; exact Nat.le_add_right _ _))]
      exact hS.2.1 q g1 g2, fun q hq => by
      rcases List.mem_append.mp hq with h | h
      · exact hS.2.2 q h
      · obtain ⟨z, -, hz⟩ := List.mem_map.mp h
        rw [← hz]
        exact Nat.le_add_right _ _⟩ hl _ hheap X2
  exact ⟨t, step t a1, b1⟩
end MORE
