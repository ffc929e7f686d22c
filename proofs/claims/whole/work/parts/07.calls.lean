/-! ===== methods: their contracts, calls, ends ===== -/
abbrev Post : Type := Option Value → Nat → wKd → wIn → wLn → wRf → Prop
/-- the answer r, the world as told -/
def Det (r : Option Value) (n : Nat) (K : wKd) (I : wIn) (L : wLn) (R : wRf) : Post := fun r2 n2 K2 I2 L2 R2 => r2 = r ∧ n2 = n ∧ K2 = K ∧ I2 = I ∧ L2 = L ∧ R2 = R
def Qp (D : va_G) (cT : Nat → ClassId) (z : Nat) (post : Post) : Array Value → State → Outcome → State → Prop := fun _ st oc t => (∃ (r : Option Value) (n : Nat) (K : wKd) (I : wIn) (L : wLn) (R : wRf), oc = .returned (r.map (cv z)) ∧ post r n K I L R ∧ HW D cT z n K I L R t.heap) ∧ va_F (fun q => z ≤ q) st t
def Sp (y : MethodName) (cc : ByteArray) (nL : Nat) (ret : Option FieldType) (rm : Room) (av : List Value) (n : Nat) (K : wKd) (I : wIn) (L : wLn) (R : wRf) (post : Post) : Prop :=
  ∀ (l : Launch) (D : va_G) (cT : Nat → ClassId) (z : Nat), Met l y (Cond.code y cc nL ret :: tg) rm (va_Pc (av.map (cv z)) (fun U => HW D cT z n K I L R U.heap ∧ KX D cT U)) (Qp D cT z post) rm.cells rm.slots (fun q => z ≤ q)
def QQ (Γ : Gm) (post : Post) : State → Prop := MQ (gb Γ) (Qp (gD Γ) (gT Γ) (gz Γ) post) (ga Γ) (gs Γ) (gR Γ).cells (gR Γ).slots (fun q => gz Γ ≤ q)
theorem KX.same {D : va_G} {cT : Nat → ClassId} {u U : State} (h : u.vm = U.vm) (hK : KX D cT u) : KX D cT U := by
  have hal : u.vm.Alike U.vm := by rw [h]; exact Vm.Alike.refl U.vm
  exact ⟨va_K.moved hal hK.1, fun w hw hn => va_Nw.same (by cases w <;> first | rfl | (simp [isNest] at hn)) h (hK.2.1 w hw hn), hK.2.2.1.movedO hal, hK.2.2.2.movedA hal⟩
theorem lv_args_1 : ∀ (vs : List Value) (k j : Nat) (v : Value), (∀ w ∈ vs, w.category = 1) → vs[j]? = some v → (k + j, v) ∈ lv_args k vs
  | [], _, _, _, _, h => by simp at h
  | w :: l, k, 0, v, _, h => by
    simp at h
    subst h
    simp [lv_args]
  | w :: l, k, j + 1, v, hc, h => by
    have h1 := lv_args_1 l (k + 1) j v (fun u hu => hc u (List.mem_cons_of_mem _ hu)) (by simpa using h)
    have hw : w.category = 1 := hc w List.mem_cons_self
    simp only [lv_args, hw]
    refine List.mem_cons_of_mem _ ?_
    have e : k + (j + 1) = k + 1 + j := by omega
    rw [e]
    exact h1
theorem Sp_intro {y : MethodName} {cc : ByteArray} {nL : Nat} {ret : Option FieldType} {rm : Room} {av : List Value} {n : Nat} {K : wKd} {I : wIn} {L : wLn} {R : wRf} {post : Post} (lo : List (Option Value)) (hy : plainName y.cls = true) (hlo : av.map some ++ List.replicate (nL - av.length) none = lo) (hlen : av.length ≤ nL) (hcat : av.all (fun v => v.category == 1) = true)
    (h : ∀ Γ : Gm, Cx Γ y.cls cc nL ret rm y.name → wp Γ 0 0 (QQ Γ post) 0 lo [] n K I L R) : Sp y cc nL ret rm av n K I L R post := by
  intro l D cT z
  refine Met.ofW (cc := cc) (maxL := nL) (ret := ret) hy rfl ?_
  intro p e s m args below meth c s₁ B hml hv
  obtain ⟨rfl, hW, hK⟩ := hv
  have hts := atoms_spec (ws := Cond.code y cc nL ret :: tg) B.pre
  have hcat1 : ∀ v ∈ av, v.category = 1 := fun v hv => by simpa using List.all_eq_true.mp hcat v hv
  have hcl : ∀ w ∈ av.map (cv z), w.category = 1 := fun w hw => by
    obtain ⟨v, hv, rfl⟩ := List.mem_map.mp hw
    rw [cv_cat]; exact hcat1 v hv
  have hsl : ∀ vs : List Value, (∀ w ∈ vs, w.category = 1) → (lg_sl vs).length = vs.length := by
    intro vs
    induction vs with
    | nil => intro _; rfl
    | cons a t ih =>
      intro hc
      have h1 := ih (fun w hw => hc w (List.mem_cons_of_mem _ hw))
      have h2 := hc a List.mem_cons_self
      simp only [lg_sl, List.flatMap_cons, h2] at h1 ⊢
      simp at h1 ⊢
      omega
  have hle : (lg_sl (av.map (cv z))).length ≤ nL := by rw [hsl _ hcl]; simpa using hlen
  have hl := lv_entry (av.map (cv z)) (n := nL) hle
  rw [lg_entry_eq]
  have key := h (p, l, e, (headSpec (Cond.code y cc nL ret :: tg) rm).room, s, m, (av.map (cv z)).toArray, below, meth, c, D, cT, z) ⟨B.exec, B.bytes, B.returns, hml, findClass_of_methodNamed B.named, fun w hw => hts w (List.mem_cons_of_mem _ hw), B.notSynchronized, hK, rfl, (name_of_methodNamed B.named B.method).1, by show z ≤ s.heap.size; rw [hW.1]; exact Nat.le_add_right z n⟩
  refine key s.heap [] _ hW va_S.rf ?_
  refine ⟨by show _ = c.maxLocals; rw [hml]; exact hl.1, hl.2.1, fun q hq => ?_⟩
  obtain ⟨j, v, hj, rfl⟩ := (lps_mem z lo 0 q).mp hq
  apply hl.2.2
  rw [← hlo] at hj
  by_cases hlt : j < av.length
  · rw [List.getElem?_append_left (by simpa using hlt)] at hj
    have hj2 : av[j]? = some v := by simpa using hj
    exact lv_args_1 _ 0 j _ hcl (by rw [List.getElem?_map, hj2]; rfl)
  · rw [List.getElem?_append_right (by simpa using hlt)] at hj
    have := List.mem_of_getElem? hj
    simp at this
section CALLS
variable {Γ : Gm} {own : String} {cc : ByteArray} {nL : Nat} {ret : Option FieldType} {rm : Room} {nm : String} {cells slots pc pc2 : Nat} {Q : State → Prop} {lo : List (Option Value)} {st : List Value} {n : Nat} {K : wKd} {I : wIn} {L : wLn} {R : wRf}
/-- ends -/
theorem w_ret (C : Cx Γ own cc nL none rm nm) {post : Post} (hd : decode cc pc = .ok (.return_, 1)) (hc : cells ≤ rm.cells) (hs : slots ≤ rm.slots) (hpost : post none n K I L R) : wp Γ cells slots (QQ Γ post) pc lo [] n K I L R := by
  intro H locs ls hW hS hl
  refine W.widen (k := (gR Γ).cells) (n := (gR Γ).slots) (by rw [C.2.2.2.2.2.2.2.2.1]; exact hc) (by rw [C.2.2.2.2.2.2.2.2.1]; exact hs) ?_
  exact W.vret C.1 C.2.1 C.2.2.1 (fun t ht _ => ⟨⟨none, n, K, I, L, R, rfl, hpost, by rw [ht]; exact hW⟩, hS.F ht⟩) hS.2.2 hd C.2.2.2.2.2.2.1
theorem w_iret (C : Cx Γ own cc nL (some .int) rm nm) {post : Post} {x : Int32} (hd : decode cc pc = .ok (.ireturn, 1)) (hc : cells ≤ rm.cells) (hs : slots ≤ rm.slots) (hpost : post (some (.int x)) n K I L R) : wp Γ cells slots (QQ Γ post) pc lo [.int x] n K I L R := by
  intro H locs ls hW hS hl
  refine W.widen (k := (gR Γ).cells) (n := (gR Γ).slots) (by rw [C.2.2.2.2.2.2.2.2.1]; exact hc) (by rw [C.2.2.2.2.2.2.2.2.1]; exact hs) ?_
  exact W.iret C.1 C.2.1 C.2.2.1 (fun t ht _ => ⟨⟨some (.int x), n, K, I, L, R, rfl, hpost, by rw [ht]; exact hW⟩, hS.F ht⟩) hS.2.2 hd C.2.2.2.2.2.2.1
theorem w_zret (C : Cx Γ own cc nL (some .boolean) rm nm) {post : Post} {x : Int32} (hd : decode cc pc = .ok (.ireturn, 1)) (hx : x = 0 ∨ x = 1) (hc : cells ≤ rm.cells) (hs : slots ≤ rm.slots) (hpost : post (some (.int x)) n K I L R) : wp Γ cells slots (QQ Γ post) pc lo [.int x] n K I L R := by
  intro H locs ls hW hS hl
  refine W.widen (k := (gR Γ).cells) (n := (gR Γ).slots) (by rw [C.2.2.2.2.2.2.2.2.1]; exact hc) (by rw [C.2.2.2.2.2.2.2.2.1]; exact hs) ?_
  exact W.zret (ty := .boolean) C.1 C.2.1 C.2.2.1 (by rcases hx with e | e <;> subst e <;> decide) (fun t ht _ => ⟨⟨some (.int x), n, K, I, L, R, rfl, hpost, by rw [ht]; exact hW⟩, hS.F ht⟩) hS.2.2 hd C.2.2.2.2.2.2.1
theorem w_lret (C : Cx Γ own cc nL (some .long) rm nm) {post : Post} {x : Int64} (hd : decode cc pc = .ok (.lreturn, 1)) (hc : cells ≤ rm.cells) (hs : slots ≤ rm.slots) (hpost : post (some (.long x)) n K I L R) : wp Γ cells slots (QQ Γ post) pc lo [.long x] n K I L R := by
  intro H locs ls hW hS hl
  refine W.widen (k := (gR Γ).cells) (n := (gR Γ).slots) (by rw [C.2.2.2.2.2.2.2.2.1]; exact hc) (by rw [C.2.2.2.2.2.2.2.2.1]; exact hs) ?_
  exact W.lret C.1 C.2.1 C.2.2.1 (fun t ht _ => ⟨⟨some (.long x), n, K, I, L, R, rfl, hpost, by rw [ht]; exact hW⟩, hS.F ht⟩) hS.2.2 hd C.2.2.2.2.2.2.1
theorem w_aret {cn : String} (C : Cx Γ own cc nL (some (.object cn)) rm nm) {post : Post} {x : Nat} (hd : decode cc pc = .ok (.areturn, 1)) (hc : cells ≤ rm.cells) (hs : slots ≤ rm.slots) (hpost : post (some (.ref x)) n K I L R) : wp Γ cells slots (QQ Γ post) pc lo [.ref x] n K I L R := by
  intro H locs ls hW hS hl
  refine W.widen (k := (gR Γ).cells) (n := (gR Γ).slots) (by rw [C.2.2.2.2.2.2.2.2.1]; exact hc) (by rw [C.2.2.2.2.2.2.2.2.1]; exact hs) ?_
  exact W.aret C.1 C.2.1 C.2.2.1 (Or.inl ⟨cn, rfl⟩) (Or.inr ⟨gz Γ + x, rfl⟩) (fun t ht _ => ⟨⟨some (.ref x), n, K, I, L, R, rfl, hpost, by rw [ht]; exact hW⟩, hS.F ht⟩) hS.2.2 hd C.2.2.2.2.2.2.1
/-- behind a call -/
theorem run_go {H : Heap} {locs : List Loc} {ls : Array Slot} {mc ms : Nat} {st0 : List Value} {post : Post} {a : Array Value}
    (hrun : va_Run (gp Γ) (gl Γ) (ge Γ) (gR Γ) (gs Γ) (gm Γ) (ga Γ) (gb Γ) (gme Γ) (gc Γ) H locs cells slots mc ms (F0 (gm Γ) pc ls st0) (st.map (cv (gz Γ))) (Qp (gD Γ) (gT Γ) (gz Γ) post a) (fun q => gz Γ ≤ q)) (hS : va_S (fun q => gz Γ ≤ q) (gs Γ).heap H locs) (hl : lh (gz Γ) ls (gc Γ).maxLocals lo)
    (k : ∀ (r : Option Value) (n2 : Nat) (K2 : wKd) (I2 : wIn) (L2 : wLn) (R2 : wRf), post r n2 K2 I2 L2 R2 → wp Γ (cells + mc) (slots + ms) Q (pc + 3) lo (r.toList ++ st) n2 K2 I2 L2 R2) :
    W (gp Γ) (gl Γ) (ge Γ) (gR Γ) (gs Γ) (gm Γ) (ga Γ) (gb Γ) (gme Γ) (gc Γ) H locs cells slots Q (F0 (gm Γ) pc ls st0) := by
  intro T hT X
  obtain ⟨v, s0, t, T2, Lc, h0, X2, hL, e1, e2, ⟨⟨r, n2, K2, I2, L2, R2, hv, hp, hHW⟩, hz, hk⟩, go⟩ := hrun T hT X
  cases hv
  rw [h0] at hz hk
  obtain ⟨t2, a1, b1⟩ := k r n2 K2 I2 L2 R2 hp T2.heap (locs ++ Lc) ls (by rw [e1]; exact hHW)
    ⟨Nat.le_trans hS.1 (by rw [e1]; exact hz), fun q h1 h2 => by rw [e1, hk q (Nat.lt_of_lt_of_le h1 hS.1) h2]; exact hS.2.1 q h1 h2, fun q hq => by
      rcases List.mem_append.mp hq with h | h
      · exact hS.2.2 q h
      · exact hL q h⟩ hl T2 rfl X2
  refine ⟨t2, go t2 ?_, b1⟩
  cases r with
  | none => exact a1
  | some v => exact a1
/-- the words of a call of y by own's entry idx -/
def MB (own : String) (idx : Nat) (y : MethodName) (cc : ByteArray) (nL : Nat) (ret : Option FieldType) (np : Nat) : Prop := Cond.methodLink own idx y ∈ tg ∧ Cond.initialized y.cls ∈ tg ∧ Cond.code y cc nL ret ∈ tg ∧ (y.cls ≠ "java/lang/invoke/MethodHandle" ∧ y.cls ≠ "java/lang/invoke/VarHandle" ∧ (parseMethodDescriptor y.desc).map (fun d => d.parameters.length) = some np)
def MN (own : String) (idx : Nat) (y : MethodName) (host : String) (cc : ByteArray) (nL : Nat) (ret : Option FieldType) (np : Nat) : Prop := Cond.methodLinkNest own idx y host ∈ lw_tbl ∧ Cond.initialized y.cls ∈ tg ∧ Cond.code y cc nL ret ∈ tg ∧ (y.cls ≠ "java/lang/invoke/MethodHandle" ∧ y.cls ≠ "java/lang/invoke/VarHandle" ∧ (parseMethodDescriptor y.desc).map (fun d => d.parameters.length) = some np)
theorem pc_blind {D : va_G} {cT : Nat → ClassId} {z : Nat} {av : List Value} : FrameBlind (va_Pc av (fun U => HW D cT z n K I L R U.heap ∧ KX D cT U)) := fun a U g mk q => by
  obtain ⟨q0, q1, q2⟩ := q
  exact ⟨q0, q1, KX.same (u := U) (U := U.calling g mk a) rfl q2⟩
theorem w_callV (C : Cx Γ own cc nL ret rm nm) {idx b ci m np nL2 : Nat} {y : MethodName} {cc2 : ByteArray} {ret2 : Option FieldType} {rm2 : Room} {As st0 : List Value} {post : Post} (hd : decode cc pc = .ok (.invokevirtual idx, 3)) (hB : MB own idx y cc2 nL2 ret2 np) (hV : Cond.instanceMethod y ∈ tg ∧ Cond.selects y.cls y y ∈ tg) (hS2 : Sp y cc2 nL2 ret2 rm2 (.ref b :: As) n K I L R post)
    (hk : K b = (ci, m)) (hci : (vwCl[ci]?).map (fun q => q.1) = some y.cls) (hc1 : ci < 100) (hst : st0 = As.reverse ++ .ref b :: st) (hn : As.length = np) (hcat : (st.map fun v => v.category).sum ≤ 8) (hroom : rm2.frames + 1 ≤ rm.frames ∧ 8 + (nL2 + 11) + rm2.locals ≤ rm.locals) (hf : cells + rm2.cells ≤ rm.cells ∧ slots + rm2.slots ≤ rm.slots) (hp : pc + 3 = pc2)
    (k : ∀ (r : Option Value) (n2 : Nat) (K2 : wKd) (I2 : wIn) (L2 : wLn) (R2 : wRf), post r n2 K2 I2 L2 R2 → wp Γ (cells + rm2.cells) (slots + rm2.slots) Q pc2 lo (r.toList ++ st) n2 K2 I2 L2 R2) : wp Γ cells slots Q pc lo st0 n K I L R := by
  subst hp; subst hst; intro H locs ls hW hS hl
  have hi : b < n := hW.lt hk (by show ci ≠ 999; omega)
  have hts := C.2.2.2.2.2.1
  have hKK := C.2.2.2.2.2.2.2.1
  have hRr := C.2.2.2.2.2.2.2.2.1
  obtain ⟨q, hq, hqy⟩ : ∃ q : vw_C, vwCl[ci]? = some q ∧ q.1 = y.cls := by
    cases h : vwCl[ci]? with
    | none => rw [h] at hci; cases hci
    | some q => rw [h] at hci; exact ⟨q, rfl, by simpa using hci⟩
  have e : ((fun v : Value => v.category) ∘ cv (gz Γ)) = (fun v : Value => v.category) := funext (fun v => cv_cat (gz Γ) v)
  have he : (wl (gT Γ) (gz Γ) n K I L R)[b]? = some (gz Γ + b, .inr (ci, flds (gz Γ) (I b) (R b) (FK ci) 0)) := by rw [wl_get hi, cel_o hk hc1]
  have hrecv := va_recv hKK.1 hW.2.2 hq he
  rw [hqy] at hrecv
  have cw : CallW (gR Γ) (gs Γ) (ga Γ) own y.cls idx y cc2 nL2 ret2 (Cond.code y cc2 nL2 ret2 :: tg) rm2 rm2.cells rm2.slots np := ⟨callB_of np hts (tg_in hB.2.2.1) rfl rfl rfl (hts _ hB.2.1) (hts _ hB.1) hB.2.2.2 (by rw [hRr]; exact hroom), hts _ hV.1, hts _ hV.2⟩
  have hrun := va_runV (H := H) (locs := locs) (cells := cells) (slots := slots) (As := As.map (cv (gz Γ))) (rest := st.map (cv (gz Γ))) (b := gz Γ + b) (g := F0 (gm Γ) pc ls ((As.reverse ++ .ref b :: st).map (cv (gz Γ)))) (below := gb Γ) (e := ge Γ) (meth := gme Γ) (nL := (gc Γ).maxLocals) ⟨C.1, C.2.1, rfl, C.2.2.2.2.1, hts⟩ (hS2 (gl Γ) (gD Γ) (gT Γ) (gz Γ)) cw ⟨pc_blind, hrecv, fun U hU hWm => ⟨rfl, by rw [hU]; exact hW, hKK.warm hWm⟩⟩ rfl (by rw [List.length_map]; exact hn) hl.1 (by show List.map _ _ = _; rw [List.map_append, List.map_reverse]; rfl) (lv_room (by rw [List.map_map, e]; exact hcat)) hd (by rw [hRr]; exact hf)
  exact run_go hrun hS hl k
theorem w_callS (C : Cx Γ own cc nL ret rm nm) {idx np nL2 : Nat} {y : MethodName} {cc2 : ByteArray} {ret2 : Option FieldType} {rm2 : Room} {As st0 : List Value} {post : Post} (hd : decode cc pc = .ok (.invokestatic idx, 3)) (hB : MB own idx y cc2 nL2 ret2 np) (hV : Cond.static y ∈ tg) (hS2 : Sp y cc2 nL2 ret2 rm2 As n K I L R post)
    (hst : st0 = As.reverse ++ st) (hn : As.length = np) (hcat : (st.map fun v => v.category).sum ≤ 8) (hroom : rm2.frames + 1 ≤ rm.frames ∧ 8 + (nL2 + 11) + rm2.locals ≤ rm.locals) (hf : cells + rm2.cells ≤ rm.cells ∧ slots + rm2.slots ≤ rm.slots) (hp : pc + 3 = pc2)
    (k : ∀ (r : Option Value) (n2 : Nat) (K2 : wKd) (I2 : wIn) (L2 : wLn) (R2 : wRf), post r n2 K2 I2 L2 R2 → wp Γ (cells + rm2.cells) (slots + rm2.slots) Q pc2 lo (r.toList ++ st) n2 K2 I2 L2 R2) : wp Γ cells slots Q pc lo st0 n K I L R := by
  subst hp; subst hst; intro H locs ls hW hS hl
  have hts := C.2.2.2.2.2.1
  have hKK := C.2.2.2.2.2.2.2.1
  have hRr := C.2.2.2.2.2.2.2.2.1
  have e : ((fun v : Value => v.category) ∘ cv (gz Γ)) = (fun v : Value => v.category) := funext (fun v => cv_cat (gz Γ) v)
  have cw : CallB (gR Γ) (gs Γ) (ga Γ) own idx y cc2 nL2 ret2 (Cond.code y cc2 nL2 ret2 :: tg) rm2 rm2.cells rm2.slots np := callB_of np hts (tg_in hB.2.2.1) rfl rfl rfl (hts _ hB.2.1) (hts _ hB.1) hB.2.2.2 (by rw [hRr]; exact hroom)
  have hrun := va_runS (H := H) (locs := locs) (cells := cells) (slots := slots) (As := As.map (cv (gz Γ))) (rest := st.map (cv (gz Γ))) (g := F0 (gm Γ) pc ls ((As.reverse ++ st).map (cv (gz Γ)))) (below := gb Γ) (e := ge Γ) (meth := gme Γ) (nL := (gc Γ).maxLocals) ⟨C.1, C.2.1, rfl, C.2.2.2.2.1, hts⟩ (hS2 (gl Γ) (gD Γ) (gT Γ) (gz Γ)) ⟨cw, hts _ hV⟩ ⟨pc_blind, fun U hU hWm => ⟨rfl, by rw [hU]; exact hW, hKK.warm hWm⟩⟩ rfl (by rw [List.length_map]; exact hn) hl.1 (by show List.map _ _ = _; rw [List.map_append, List.map_reverse]) (lv_room (by rw [List.map_map, e]; exact hcat)) hd (by rw [hRr]; exact hf)
  exact run_go hrun hS hl k
theorem w_callI (C : Cx Γ own cc nL ret rm nm) {idx b np nL2 : Nat} {y : MethodName} {cc2 : ByteArray} {rm2 : Room} {As st0 : List Value} {post : Post} (hd : decode cc pc = .ok (.invokespecial idx, 3)) (hB : MB own idx y cc2 nL2 none np) (hV : Cond.instanceMethod y ∈ tg ∧ y.name = "<init>") (hS2 : Sp y cc2 nL2 none rm2 (.ref b :: As) n K I L R post)
    (hst : st0 = As.reverse ++ .ref b :: st) (hn : As.length = np) (hcat : (st.map fun v => v.category).sum ≤ 8) (hroom : rm2.frames + 1 ≤ rm.frames ∧ 8 + (nL2 + 11) + rm2.locals ≤ rm.locals) (hf : cells + rm2.cells ≤ rm.cells ∧ slots + rm2.slots ≤ rm.slots) (hp : pc + 3 = pc2)
    (k : ∀ (r : Option Value) (n2 : Nat) (K2 : wKd) (I2 : wIn) (L2 : wLn) (R2 : wRf), post r n2 K2 I2 L2 R2 → wp Γ (cells + rm2.cells) (slots + rm2.slots) Q pc2 lo (r.toList ++ st) n2 K2 I2 L2 R2) : wp Γ cells slots Q pc lo st0 n K I L R := by
  subst hp; subst hst; intro H locs ls hW hS hl
  have hts := C.2.2.2.2.2.1
  have hKK := C.2.2.2.2.2.2.2.1
  have hRr := C.2.2.2.2.2.2.2.2.1
  have e : ((fun v : Value => v.category) ∘ cv (gz Γ)) = (fun v : Value => v.category) := funext (fun v => cv_cat (gz Γ) v)
  have cw : CallB (gR Γ) (gs Γ) (ga Γ) own idx y cc2 nL2 none (Cond.code y cc2 nL2 none :: tg) rm2 rm2.cells rm2.slots np := callB_of np hts (tg_in hB.2.2.1) rfl rfl rfl (hts _ hB.2.1) (hts _ hB.1) hB.2.2.2 (by rw [hRr]; exact hroom)
  have hrun := va_runI (H := H) (locs := locs) (cells := cells) (slots := slots) (As := As.map (cv (gz Γ))) (rest := st.map (cv (gz Γ))) (b := gz Γ + b) (g := F0 (gm Γ) pc ls ((As.reverse ++ .ref b :: st).map (cv (gz Γ)))) (below := gb Γ) (e := ge Γ) (meth := gme Γ) (nL := (gc Γ).maxLocals) ⟨C.1, C.2.1, rfl, C.2.2.2.2.1, hts⟩ (hS2 (gl Γ) (gD Γ) (gT Γ) (gz Γ)) ⟨cw, hV.2, hts _ hV.1⟩ ⟨pc_blind, fun U hU hWm => ⟨rfl, by rw [hU]; exact hW, hKK.warm hWm⟩⟩ rfl (by rw [List.length_map]; exact hn) hl.1 (by show List.map _ _ = _; rw [List.map_append, List.map_reverse]; rfl) (lv_room (by rw [List.map_map, e]; exact hcat)) hd (by rw [hRr]; exact hf)
  exact run_go hrun hS hl k
theorem w_callIN (C : Cx Γ own cc nL ret rm nm) {idx b np nL2 : Nat} {y : MethodName} {host : String} {cc2 : ByteArray} {rm2 : Room} {As st0 : List Value} {post : Post} (hd : decode cc pc = .ok (.invokespecial idx, 3)) (hB : MN own idx y host cc2 nL2 none np) (hV : Cond.instanceMethod y ∈ tg ∧ y.name = "<init>") (hS2 : Sp y cc2 nL2 none rm2 (.ref b :: As) n K I L R post)
    (hst : st0 = As.reverse ++ .ref b :: st) (hn : As.length = np) (hcat : (st.map fun v => v.category).sum ≤ 8) (hroom : rm2.frames + 1 ≤ rm.frames ∧ 8 + (nL2 + 11) + rm2.locals ≤ rm.locals) (hf : cells + rm2.cells ≤ rm.cells ∧ slots + rm2.slots ≤ rm.slots) (hp : pc + 3 = pc2)
    (k : ∀ (r : Option Value) (n2 : Nat) (K2 : wKd) (I2 : wIn) (L2 : wLn) (R2 : wRf), post r n2 K2 I2 L2 R2 → wp Γ (cells + rm2.cells) (slots + rm2.slots) Q pc2 lo (r.toList ++ st) n2 K2 I2 L2 R2) : wp Γ cells slots Q pc lo st0 n K I L R := by
  subst hp; subst hst; intro H locs ls hW hS hl
  have hts := C.2.2.2.2.2.1
  have hKK := C.2.2.2.2.2.2.2.1
  have hRr := C.2.2.2.2.2.2.2.2.1
  have e : ((fun v : Value => v.category) ∘ cv (gz Γ)) = (fun v : Value => v.category) := funext (fun v => cv_cat (gz Γ) v)
  have cw : va_CN (gR Γ) (gs Γ) (ga Γ) own idx y host cc2 nL2 none (Cond.code y cc2 nL2 none :: tg) rm2 rm2.cells rm2.slots np := va_cnB np hts (tg_in hB.2.2.1) rfl rfl rfl (hKK.2.1 _ hB.1 rfl) (hts _ hB.2.1) hB.2.2.2 (by rw [hRr]; exact hroom)
  have hrun := va_runIN (H := H) (locs := locs) (cells := cells) (slots := slots) (As := As.map (cv (gz Γ))) (rest := st.map (cv (gz Γ))) (b := gz Γ + b) (g := F0 (gm Γ) pc ls ((As.reverse ++ .ref b :: st).map (cv (gz Γ)))) (below := gb Γ) (e := ge Γ) (meth := gme Γ) (nL := (gc Γ).maxLocals) ⟨C.1, C.2.1, rfl, C.2.2.2.2.1, hts⟩ (hS2 (gl Γ) (gD Γ) (gT Γ) (gz Γ)) ⟨cw, hV.2, hts _ hV.1⟩ ⟨pc_blind, fun U hU hWm => ⟨rfl, by rw [hU]; exact hW, hKK.warm hWm⟩⟩ rfl (by rw [List.length_map]; exact hn) hl.1 (by show List.map _ _ = _; rw [List.map_append, List.map_reverse]; rfl) (lv_room (by rw [List.map_map, e]; exact hcat)) hd (by rw [hRr]; exact hf)
  exact run_go hrun hS hl k
end CALLS
