/-! ===== the law from its entry ===== -/
theorem nwk_known {own : String} {idx ci N : Nat} (h : NWk own idx ci N) {args : Array Value} {s : State} (hts : ∀ w ∈ tg, w.before args s = true) : ∃ (cC : ClassId) (iS : Nat → Nat), ∀ q : vw_C, vwCl[ci]? = some q → u_Kn s q.1 q.2.1 q.2.2 cC iS := by
  obtain ⟨C, T, tyf, hC, h1, h2, h3⟩ := h
  obtain ⟨cC, iS, hk⟩ := u_known (C := C) (T := T) (N := N) (n := N) hts hC.2.1 (hts _ h2)
  refine ⟨cC, iS, fun q hq => ?_⟩
  rw [hC.1] at hq
  injection hq with hq
  subst hq
  exact hk
theorem aoA_spec {args : Array Value} {first s : State} {o : Option Outcome} {idx : List Nat} {t : FieldType} (h : (Cond.arrayOver (.array t)).holds args first o s idx = true) : ∃ comp c k, s.vm.classes[c]? = some k ∧ k.kind = .array comp (.array t) ∧ s.vm.findClass ("[" ++ (FieldType.array t).toString) = some c := by
  simp only [Cond.holds, Cond.value, beq_iff_eq] at h
  cases hc : s.vm.findClass (FieldType.array t).toString with
  | none => simp [hc] at h
  | some comp =>
    simp only [hc, Option.bind_some, Option.bind_eq_some_iff, Option.map_eq_some_iff] at h
    obtain ⟨c, hi, k, hk, hb⟩ := h
    obtain ⟨hlt, hp, -⟩ := Array.findIdx?_eq_some_iff_getElem.mp hi
    have hkk : s.vm.classes[c] = k := (Array.getElem?_eq_some_iff.mp hk).2
    rw [hkk] at hp
    cases hkind : k.kind with
    | array component ty =>
      rw [hkind] at hb hp
      simp at hb hp
      exact ⟨comp, c, k, hk, by rw [hkind, hp, hb.1], hb.2⟩
    | _ => rw [hkind] at hb; simp at hb
theorem tb_int : Cond.arrayClass .int ∈ lw_tbl := List.mem_of_getElem? (i := 127) (by decide +kernel)
theorem tb_byte : Cond.arrayClass .byte ∈ lw_tbl := List.mem_of_getElem? (i := 80) (by decide +kernel)
theorem tb_bool : Cond.arrayClass .boolean ∈ lw_tbl := List.mem_of_getElem? (i := 786) (by decide +kernel)
theorem tb_long : Cond.arrayClass .long ∈ lw_tbl := List.mem_of_getElem? (i := 248) (by decide +kernel)
theorem tb_mat : Cond.arrayOver (.object RX2) ∈ lw_tbl := List.mem_of_getElem? (i := 282) (by decide +kernel)
theorem tb_ints : Cond.arrayOver (.array .int) ∈ lw_tbl := List.mem_of_getElem? (i := 326) (by decide +kernel)
theorem kx_start {s : State} {b : Nat} (hts : ∀ w ∈ lw_tbl, w.before #[Value.ref b] s = true) : ∃ (D : va_G) (cT : Nat → ClassId), KX D cT s := by
  have htg : ∀ w ∈ tg, w.before #[Value.ref b] s = true := fun w hw => hts w (List.mem_filter.mp hw).1
  have hex : ∀ c : Nat, ∃ (cC : ClassId) (iS : Nat → Nat), ∀ q : vw_C, vwCl[c]? = some q → u_Kn s q.1 q.2.1 q.2.2 cC iS := by
    intro c
    match c with
    | 0 => exact nwk_known nw_X2_32 htg
    | 1 => exact nwk_known nw_X2_25 htg
    | 2 => exact nwk_known nw_X10_25 htg
    | 3 => exact nwk_known nw_X10_49 htg
    | 4 => exact nwk_known nw_X10_16 htg
    | 5 => exact nwk_known nw_X4_9 htg
    | 6 => exact nwk_known nw_X10_36 htg
    | 7 => exact nwk_known nw_X10_7 htg
    | 8 => exact nwk_known nw_X2_18 htg
    | 9 => exact nwk_known nw_X10_56 htg
    | 10 => exact nwk_known nw_L_7 htg
    | 11 => exact nwk_known nw_L_10 htg
    | c + 12 => exact ⟨0, fun _ => 0, fun q hq => by simp [vwCl] at hq⟩
  obtain ⟨cI, kI, oI, hI1, hI2, hI3⟩ := Cond.arrayClass_spec (hts _ tb_int)
  obtain ⟨cB, kB, oB, hB1, hB2, hB3⟩ := Cond.arrayClass_spec (hts _ tb_byte)
  obtain ⟨cZ, kZ, oZ, hZ1, hZ2, hZ3⟩ := Cond.arrayClass_spec (hts _ tb_bool)
  obtain ⟨cJ, kJ, oJ, hJ1, hJ2, hJ3⟩ := Cond.arrayClass_spec (hts _ tb_long)
  obtain ⟨oM, cM, kM, hM1, hM2, hM3, hM4, hM5⟩ := Cond.arrayOver_spec (hts _ tb_mat)
  obtain ⟨oA, cA, kA, hA1, hA2, hA3⟩ := aoA_spec (hts _ tb_ints)
  refine ⟨(fun c => Classical.choose (hex c), fun c => Classical.choose (Classical.choose_spec (hex c))), fun t => if t = 100 then cI else if t = 101 then cB else if t = 102 then cZ else if t = 103 then cJ else if t = 104 then cM else cA, ⟨fun c q hq => Classical.choose_spec (Classical.choose_spec (hex c)) q hq, fun k q hk => ?_⟩, fun w hw hn => ?_, hts _ tb_mat, hts _ tb_ints⟩
  · match k, hk with
    | 0, hk => cases hk; exact ⟨fun n z => ⟨fun k h => (by cases h), kI, hI2, oI, hI3⟩, hI1⟩
    | 1, hk => cases hk; exact ⟨fun n z => ⟨fun k h => (by cases h), kB, hB2, oB, hB3⟩, hB1⟩
    | 2, hk => cases hk; exact ⟨fun n z => ⟨fun k h => (by cases h), kZ, hZ2, oZ, hZ3⟩, hZ1⟩
    | 3, hk => cases hk; exact ⟨fun n z => ⟨fun k h => (by cases h), kJ, hJ2, oJ, hJ3⟩, hJ1⟩
    | 4, hk => cases hk; exact ⟨fun n z => ⟨fun k h => (by cases h), kM, hM3, oM, hM4⟩, kM, oM, hM3, hM4, hM1, hM5⟩
    | 5, hk => cases hk; exact ⟨fun n z => ⟨fun k h => (by cases h), kA, hA1, oA, hA2⟩, hA3⟩
    | k + 6, hk => simp [tysOf] at hk
  · exact va_Nw.of (by cases w <;> first | rfl | (simp [isNest] at hn)) (hts w hw)
theorem law_end {Γ : Gm} {b : Nat} (C : C_L Γ) (hl : (gme Γ).locks = false) (ha : ga Γ = #[Value.ref b]) (hz : gz Γ = (gs Γ).heap.size) (hR : gR Γ = room_1) (cells slots : Nat) (lo : List (Option Value)) (n : Nat) (K : wKd) (I : wIn) (L : wLn) (R : wRf) (h1 : cells ≤ 600000) (h2 : slots ≤ 7302250) : wp Γ cells slots (lw_Z (gb Γ) #[Value.ref b] (gs Γ)) 769 lo [.int (iI 1)] n K I L R := by
  intro H locs ls hW hS hl2
  rw [ha, hR]
  refine va_forget (fun q hq => by rw [← hz]; exact hS.2.2 q hq) (W.widen h1 h2 ?_)
  exact lw_ret C.1 C.2.1 C.2.2.1 hl dL_law_769
set_option maxHeartbeats 4000000 in
theorem whole_start {p : Program} {e : Env} {s : State} {m : MethodId} {below : List Frame} {meth : Method} {c : Code} (l : Launch) {b L : Nat} {xs : Nat → Int32} (hL : L ≤ 3072) (C0 : lw_At p s m meth c b L xs) : W p l e room_1 s m #[Value.ref b] below meth c s.heap [] 0 0 (lw_Z below #[Value.ref b] s) (entryFrame m ([Value.ref b] : List Value).toArray 4) := by
  obtain ⟨hx, hb, hr, hml, hown, hts, hX, hbl, hlocks, hgv⟩ := id C0
  obtain ⟨D, cT, hKX⟩ := kx_start hts
  have htg : ∀ w ∈ tg, w.before #[Value.ref b] s = true := fun w hw => hts w (List.mem_filter.mp hw).1
  have hl := lv_entry ([.ref b]) (n := 4) (Nat.le_of_ble_eq_true rfl)
  rw [lg_entry_eq]
  generalize (lg_sl ([.ref b]) ++ List.replicate (4 - (lg_sl ([.ref b])).length) Slot.unset).toArray = ls at hl ⊢
  have hl : lv_has ls 4 [(0, .ref b)] := hl
  let Γ : Gm := (p, l, e, room_1, s, m, #[Value.ref b], below, meth, c, D, cT, s.heap.size)
  have C : C_L Γ := ⟨hx, hb, hr, hml, hown, htg, hlocks, hKX, rfl, rfl, Nat.le_refl _⟩
  have hSc : ScA Γ b L xs := ⟨hX, hbl, rfl, hL⟩
  have key := law_start (Q := lw_Z below #[Value.ref b] s) C hSc (fun cells slots lo n K I L2 R h1 h2 => law_end C hlocks rfl rfl rfl cells slots lo n K I L2 R h1 h2)
  refine key s.heap [] ls ⟨rfl, fun _ _ => rfl, fun k q h => ?_⟩ va_S.rf ?_
  · simp [wl] at h
  · show lh s.heap.size ls c.maxLocals _
    rw [hml]
    exact hl
