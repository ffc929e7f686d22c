/-! ===== BEGIN words of one list among another's, by their places ===== -/
theorem goodIn_r {big : List Cond} (ws : List Cond) (ps : List Nat) (hp : ws = ps.filterMap (fun i => big[i]?)) (h : ws.all goodWord = true) : GoodIn big ws := by
  intro w hw
  have h1 := List.all_eq_true.mp h w hw
  rw [hp] at hw
  obtain ⟨i, -, hi⟩ := List.mem_filterMap.mp hw
  have hm : w ∈ big := by first | exact List.mem_of_getElem? hi | exact List.getElem?_mem hi
  exact ⟨hm, good_of_word h1⟩
theorem goodIn_app {big a b : List Cond} (ha : GoodIn big a) (hb : GoodIn big b) : GoodIn big (a ++ b) := fun w h => (List.mem_append.mp h).elim (ha w) (hb w)
theorem goodIn_ca {big a b : List Cond} {c : Cond} (ha : GoodIn big (c :: a)) (hb : GoodIn big b) : GoodIn big (c :: (a ++ b)) := fun w h => (List.mem_cons.mp h).elim (fun e => ha w (List.mem_cons.mpr (Or.inl e))) (fun h => (List.mem_append.mp h).elim (fun h => ha w (List.mem_cons.mpr (Or.inr h))) (hb w))
theorem goodIn_sub {big ws : List Cond} (hm : ∀ w ∈ ws, w ∈ big) (h : ws.all goodWord = true) : GoodIn big ws := fun w hw => ⟨hm w hw, good_of_word (List.all_eq_true.mp h w hw)⟩
/-! ===== END ===== -/

/-! ===== BEGIN new T[n][m]: the outer array a place, the inner ones among the pooled ===== -/
/-- f, but v at every address of l -/
def vr_up {α : Type} (f : Nat → α) (l : List Nat) (v : α) : Nat → α := fun a => if a ∈ l then v else f a
theorem vr_up_in {α : Type} {f : Nat → α} {l : List Nat} {v : α} {a : Nat} (h : a ∈ l) : vr_up f l v a = v := if_pos h
theorem vr_up_ne {α : Type} {f : Nat → α} {l : List Nat} {v : α} {a : Nat} (h : a ∉ l) : vr_up f l v a = f a := if_neg h
theorem vr_rows {L l : List Nat} {f : Nat → va_E} {e : va_E} (h : ∀ a, a ∈ l → a ∉ L) : va_pl L f ++ l.map (fun a => (a, e)) = va_pl (L ++ l) (vr_up f l e) := by
  unfold va_pl
  rw [List.map_append]
  congr 1
  · apply List.map_congr_left
    intro a ha
    rw [vr_up_ne (fun q => h a q ha)]
  · apply List.map_congr_left
    intro a ha
    rw [vr_up_in ha]
theorem vr_lay {X rows : va_W} {x : Nat × va_E} {pl : va_W} {D : va_G} {cl : List vw_C} {H : Heap} (hP : va_P D cl (((X ++ pl) ++ [x]) ++ rows) H) : va_P D cl ((X ++ [x]) ++ (pl ++ rows)) H := by
  rw [List.append_assoc (X ++ pl)] at hP
  have h := va_P.swap hP
  rw [← List.append_assoc X] at h
  have h2 := va_P.swap h
  rw [List.append_assoc (X ++ [x])] at h2
  exact h2
theorem vr_layD {X rows : va_W} {x : Nat × va_E} {pl : va_W} {A : Nat → Prop} (hD : va_D A (((X ++ pl) ++ [x]) ++ rows)) : va_D A ((X ++ [x]) ++ (pl ++ rows)) := by
  rw [List.append_assoc (X ++ pl)] at hD
  have h := va_D.swap hD
  rw [← List.append_assoc X] at h
  have h2 := va_D.swap h
  rw [List.append_assoc (X ++ [x])] at h2
  exact h2
theorem vr_outer (c : ClassId) (N h0 : Nat) : ∀ i : Nat, Jvm.Free.Multi.outerC c N h0 i = arrV c N (fun j => va_rf (if j < i then some (h0 + 1 + j) else none))
  | 0 => by
    show ({ cls := c, slots := Array.replicate N .null, vm := .none } : Cell) = _
    rw [arrV_new]
    refine congrArg (arrV c N) (funext fun j => ?_)
    simp [va_rf]
  | i + 1 => by
    show (Jvm.Free.Multi.outerC c N h0 i).setSlot i (.ref (h0 + 1 + i)) = _
    rw [vr_outer c N h0 i, arrV_store]
    refine congrArg (arrV c N) (funext fun j => ?_)
    by_cases e : j = i
    · subst e
      simp [updV, va_rf]
    · by_cases h : j < i
      · simp [updV, e, h, Nat.lt_succ_of_lt h]
      · simp [updV, e, h, show ¬ j < i + 1 by omega]
def va_AOA (ty : FieldType) (U : State) : Prop := (Cond.arrayOver (.array ty)).before #[] U = true
theorem va_AOA.use {ty : FieldType} {A : Array Value} {U : State} (h : va_AOA ty U) : (Cond.arrayOver (.array ty)).before A U = true := h
section VGM
variable {p : Program} {l : Launch} {e : Env} {R : Room} {s : State} {m : MethodId} {args : Array Value} {below : List Frame} {meth : Method} {c : Code} {H : Heap} {locs : List Loc} {cells slots : Nat} {Q : State → Prop}
variable {cc : ByteArray} {pc : Nat} {ls : Array Slot} {rest : List Value} {D : va_G} {cl : List vw_C} {A : Nat → Prop} {a : Nat} {tys : List (ClassId × FieldType)} {ws : va_W} {H0 : Heap}
theorem va_mna {X : va_W} {L : List Nat} {f : Nat → va_E} {cc : ByteArray} (hexec : p.tables.exec = Jvm.exec) (hb : c.code = cc) {own : String} {index : Nat} {ty : FieldType} {cy : ClassId} (hown : s.vm.findClass own = some m.cls) (hclink : (Cond.classLink own index ("[" ++ (FieldType.array ty).toString)).before args s = true) (hover : va_AOA ty s) (harr : (Cond.arrayClass ty).before args s = true) (hcy : s.vm.findClass (FieldType.array ty).toString = some cy)
    (hK : va_K D cl tys s) (hP : va_P D cl (X ++ va_pl L f) H) (hD : va_D A (X ++ va_pl L f)) (hS : va_S A H0 H locs) (hA : ∀ q, H0.size ≤ q → A q) {n k : Int32} {N' K' : Nat} {z : vp_A} (hn : ¬ n < 0) (hk : ¬ k < 0) (hN : n.toNatClampNeg = N') (hM : k.toNatClampNeg = K')
    (hb1 : N' * 4 ≤ 536870912) (hb2 : K' * componentBytes ty ≤ 536870912) (hb3 : K' ≤ 536870912) (hdf : fits ty (defaultValue ty) = true) (hdd : (defaultValue ty).isDefault = true) (hcells : cells + (1 + N') ≤ R.cells) (hslots : slots + (N' + N' * K') ≤ R.slots) (hz : ∀ c : ClassId, Jvm.Free.Multi.innerC c K' (defaultValue ty) = vp_cell c z) (hdg : decode cc pc = .ok (.multianewarray index 2, 4))
    (kk : ∀ (q : Nat) (r : Nat → Nat) (cA : ClassId) (H1 : Heap), (∀ i j : Nat, i < N' → j < N' → r i = r j → i = j) → (∀ i : Nat, i < N' → r i ∉ L) → va_K D cl (tys ++ [(cA, .array ty)]) s →
      va_P D cl ((X ++ [(q, .inl (cA, N', .inr (.inr (.inr (.inr (fun i => if i < N' then some (r i) else none))))))]) ++ va_pl (L ++ (List.range N').map r) (vr_up f ((List.range N').map r) (.inl (cy, z)))) H1 → va_D A ((X ++ [(q, .inl (cA, N', .inr (.inr (.inr (.inr (fun i => if i < N' then some (r i) else none))))))]) ++ va_pl (L ++ (List.range N').map r) (vr_up f ((List.range N').map r) (.inl (cy, z)))) → va_S A H0 H1 locs →
      W p l e R s m args below meth c H1 locs (cells + 1 + N') (slots + N' + N' * K') Q (F0 m (pc + 4) ls (.ref q :: rest))) : W p l e R s m args below meth c H locs cells slots Q (F0 m pc ls (.int k :: .int n :: rest)) := by
  subst hN
  subst hM
  intro T hT Xs
  obtain ⟨vm₁, cA, comp, -, fA, fC, hO, -, X', step⟩ := Xs.multianewarray2F hexec hown hclink (va_AOA.use hover) harr (g := F0 m pc ls (.int k :: .int n :: rest)) rfl (by rw [hb]; exact hdg) rfl hn hk hb1 hb2 hb3 hdf hdd hcells hslots
  have ec : some cy = some comp := hcy.symm.trans fC
  cases ec
  generalize hF : Jvm.Free.Multi.fill (T.setVm vm₁) cA cy n.toNatClampNeg k.toNatClampNeg (defaultValue ty) n.toNatClampNeg = F at X' step
  have hTh : (T.setVm vm₁).heap = H := hT
  obtain ⟨f1, f2, -, -⟩ := Jvm.Free.Multi.fill_facts (T.setVm vm₁) cA cy n.toNatClampNeg k.toNatClampNeg (defaultValue ty) n.toNatClampNeg
  rw [hF, hTh] at f1 f2
  have hold : ∀ x : Nat, x < H.size → F.heap[x]? = H[x]? := fun x hx => by
    have := Jvm.Free.Multi.fill_old (T.setVm vm₁) cA cy n.toNatClampNeg k.toNatClampNeg (defaultValue ty) (a := x) (by rw [hTh]; exact hx) n.toNatClampNeg
    rw [hF, hTh] at this
    exact this
  have hrow : ∀ j : Nat, j < n.toNatClampNeg → F.heap[H.size + 1 + j]? = some (vp_cell cy z) := fun j hj => by
    have := Jvm.Free.Multi.fill_inner (T.setVm vm₁) cA cy n.toNatClampNeg k.toNatClampNeg (defaultValue ty) n.toNatClampNeg j hj
    rw [hF, hTh, hz] at this
    exact this
  have hout : Jvm.Free.Multi.outerC cA n.toNatClampNeg H.size n.toNatClampNeg = vp_cell cA (n.toNatClampNeg, .inr (.inr (.inr (.inr (fun i => if i < n.toNatClampNeg then some (H.size + 1 + i) else none))))) := by
    rw [vp_cell_q]
    exact vr_outer cA n.toNatClampNeg H.size n.toNatClampNeg
  rw [hout] at f2
  have hlt : ∀ a, a ∈ L → a < H.size := fun a ha => by
    obtain ⟨k9, hk9⟩ := va_pl_get (X := X) (f := f) ha
    exact (hP k9 _ hk9).lt
  have hnl : ∀ i : Nat, i < n.toNatClampNeg → H.size + 1 + i ∉ L := fun i _ h => by
    have := hlt _ h
    omega
  have hnm : ∀ a, a ∈ (List.range n.toNatClampNeg).map (fun i => H.size + 1 + i) → a ∉ L := fun a ha h => by
    obtain ⟨i, -, rfl⟩ := List.mem_map.mp ha
    have := hlt _ h
    omega
  have hP0 : va_P D cl (X ++ va_pl L f) F.heap := hP.kept (fun k9 x hx => hold x.1 ((hP k9 x hx).lt))
  have hP1 : va_P D cl ((X ++ va_pl L f) ++ [(H.size, .inl (cA, n.toNatClampNeg, .inr (.inr (.inr (.inr (fun i => if i < n.toNatClampNeg then some (H.size + 1 + i) else none))))))]) F.heap := hP0.app (fun k9 x hx => by
    have h0 : k9 < 1 := (List.getElem?_eq_some_iff.mp hx).1
    rw [show k9 = 0 by omega] at hx
    cases hx
    exact f2)
  have hP2 : va_P D cl (((X ++ va_pl L f) ++ [(H.size, .inl (cA, n.toNatClampNeg, .inr (.inr (.inr (.inr (fun i => if i < n.toNatClampNeg then some (H.size + 1 + i) else none))))))]) ++ ((List.range n.toNatClampNeg).map (fun i => H.size + 1 + i)).map (fun a => (a, .inl (cy, z)))) F.heap := hP1.app (fun k9 x hx => by
    obtain ⟨a, ha, rfl⟩ := List.mem_map.mp (List.mem_of_getElem? hx)
    obtain ⟨i, hi, rfl⟩ := List.mem_map.mp ha
    exact hrow i (List.mem_range.mp hi))
  have hD2 : va_D A (((X ++ va_pl L f) ++ [(H.size, .inl (cA, n.toNatClampNeg, .inr (.inr (.inr (.inr (fun i => if i < n.toNatClampNeg then some (H.size + 1 + i) else none))))))]) ++ ((List.range n.toNatClampNeg).map (fun i => H.size + 1 + i)).map (fun a => (a, .inl (cy, z)))) := by
    have hD1 := hD.push (e := .inl (cA, n.toNatClampNeg, .inr (.inr (.inr (.inr (fun i => if i < n.toNatClampNeg then some (H.size + 1 + i) else none)))))) hP rfl (hA _ hS.1)
    generalize hW1 : (X ++ va_pl L f) ++ [(H.size, .inl (cA, n.toNatClampNeg, .inr (.inr (.inr (.inr (fun i => if i < n.toNatClampNeg then some (H.size + 1 + i) else none))))))] = W1 at hD1 hP1 ⊢
    have hle : ∀ (k9 : Nat) (x : Nat × va_E), W1[k9]? = some x → x.1 ≤ H.size := fun k9 x hx => by
      rw [← hW1] at hx
      by_cases hl : k9 < (X ++ va_pl L f).length
      · rw [List.getElem?_append_left hl] at hx
        exact Nat.le_of_lt ((hP k9 x hx).lt)
      · rw [List.getElem?_append_right (by omega)] at hx
        have h0 : k9 - (X ++ va_pl L f).length < 1 := (List.getElem?_eq_some_iff.mp hx).1
        rw [show k9 - (X ++ va_pl L f).length = 0 by omega] at hx
        cases hx
        exact Nat.le_refl _
    have hr : ∀ (k9 : Nat) (x : Nat × va_E), (((List.range n.toNatClampNeg).map (fun i => H.size + 1 + i)).map (fun a => ((a, .inl (cy, z)) : Nat × va_E)))[k9]? = some x → x.1 = H.size + 1 + k9 := fun k9 x hx => by
      rw [List.getElem?_map, List.getElem?_map] at hx
      by_cases h9 : k9 < n.toNatClampNeg
      · rw [List.getElem?_range h9] at hx
        cases hx
        rfl
      · have hn0 : (List.range n.toNatClampNeg)[k9]? = none := List.getElem?_eq_none (by rw [List.length_range]; omega)
        rw [hn0] at hx
        cases hx
    refine ⟨fun i j x y hi hj hxy => ?_, fun k9 x hx => ?_⟩
    · by_cases h1 : i < W1.length <;> by_cases h2 : j < W1.length
      · rw [List.getElem?_append_left h1] at hi
        rw [List.getElem?_append_left h2] at hj
        exact hD1.1 i j x y hi hj hxy
      · rw [List.getElem?_append_left h1] at hi
        rw [List.getElem?_append_right (by omega)] at hj
        have := hle _ _ hi
        have := hr _ _ hj
        omega
      · rw [List.getElem?_append_right (by omega)] at hi
        rw [List.getElem?_append_left h2] at hj
        have := hle _ _ hj
        have := hr _ _ hi
        omega
      · rw [List.getElem?_append_right (by omega)] at hi hj
        have := hr _ _ hi
        have := hr _ _ hj
        omega
    · by_cases h1 : k9 < W1.length
      · rw [List.getElem?_append_left h1] at hx
        exact hD1.2 k9 x hx
      · rw [List.getElem?_append_right (by omega)] at hx
        have := hr _ _ hx
        exact hA _ (by have := hS.1; omega)
  have hAr : ArrOfT s cA (.array ty) := fun N9 z9 => by
    obtain ⟨-, k9, hk9, cm9, hkk9⟩ := (hO 0 0 0).1
    exact ⟨(fun q hq => by cases hq), k9, hk9, cm9, hkk9⟩
  have hK2 : va_K D cl (tys ++ [(cA, .array ty)]) s := ⟨hK.1, fun k9 x hx => by
    by_cases hl : k9 < tys.length
    · rw [List.getElem?_append_left hl] at hx
      exact hK.2 k9 x hx
    · rw [List.getElem?_append_right (by omega)] at hx
      have h0 : k9 - tys.length < 1 := (List.getElem?_eq_some_iff.mp hx).1
      rw [show k9 - tys.length = 0 by omega] at hx
      cases hx
      exact ⟨hAr, fA⟩⟩
  obtain ⟨t, a1, b1⟩ := kk H.size (fun i => H.size + 1 + i) cA F.heap (fun i j _ _ h => by have h9 : H.size + 1 + i = H.size + 1 + j := h; omega) hnl hK2 (by rw [← vr_rows hnm]; exact vr_lay hP2) (by rw [← vr_rows hnm]; exact vr_layD hD2) ⟨by rw [f1]; have := hS.1; omega, fun x h1 h2 => (hold x (Nat.lt_of_lt_of_le h1 hS.1)).trans (hS.2.1 x h1 h2), hS.2.2⟩ F rfl X'
  refine ⟨t, step t ?_, b1⟩
  have e : T.heap.size = H.size := by rw [hT]
  rw [e]
  exact a1
end VGM
/-! ===== END ===== -/

/-! ===== BEGIN printed: names, fields, word lists, decode rows ===== -/
def RX0 : String := "CarillonDesk$Clappers"
def TX0 : u_T := fun k => match k with
  | _ => ("CarillonDesk$Clappers", "struck", "[J", true)
def tyX0 : Nat → FieldType := fun k => match k with
  | _ => .array .long
abbrev wsX00 : List Cond := u_ws RX0 TX0 1
theorem nmX0 : ∀ a, a < 1 → ∀ b, b < 1 → a ≠ b → (TX0 a).2.1 ≠ (TX0 b).2.1 := by decide +kernel
theorem tyX0_ok : ∀ k, k < 1 → parseFieldDescriptor (TX0 k).2.2.1 = some (tyX0 k) := by decide +kernel
abbrev cX0_init : ByteArray := prog_2_method_1_code
def yX0_init : MethodName := ⟨RX0, "<init>", "()V"⟩
abbrev cX0_playByFists : ByteArray := prog_2_method_2_code
def yX0_playByFists : MethodName := ⟨RX0, "playByFists", "(LCarillonDesk$Score;LCarillonDesk$Setting;)I"⟩
abbrev cX0_playByDrum : ByteArray := prog_2_method_3_code
def yX0_playByDrum : MethodName := ⟨RX0, "playByDrum", "(LCarillonDesk$Drum;)I"⟩
abbrev cX0_wornAt : ByteArray := prog_2_method_4_code
def yX0_wornAt : MethodName := ⟨RX0, "wornAt", "(I)I"⟩
abbrev cX0_copyFrom : ByteArray := prog_2_method_5_code
def yX0_copyFrom : MethodName := ⟨RX0, "copyFrom", "(LCarillonDesk$Clappers;)V"⟩
def RX1 : String := "CarillonDesk$Drum"
def TX1 : u_T := fun k => match k with
  | 0 => ("CarillonDesk$Drum", "pinSteps", "[I", true)
  | 1 => ("CarillonDesk$Drum", "pinBells", "[I", true)
  | 2 => ("CarillonDesk$Drum", "size", "I", false)
  | 3 => ("CarillonDesk$Drum", "steps", "I", false)
  | _ => ("CarillonDesk$Drum", "latestTurn", "I", false)
def tyX1 : Nat → FieldType := fun k => match k with
  | 0 => .array .int
  | 1 => .array .int
  | 2 => .int
  | 3 => .int
  | _ => .int
abbrev wsX10 : List Cond := u_ws RX1 TX1 5
theorem nmX1 : ∀ a, a < 5 → ∀ b, b < 5 → a ≠ b → (TX1 a).2.1 ≠ (TX1 b).2.1 := by decide +kernel
theorem tyX1_ok : ∀ k, k < 5 → parseFieldDescriptor (TX1 k).2.2.1 = some (tyX1 k) := by decide +kernel
abbrev cX1_init : ByteArray := prog_3_method_1_code
def yX1_init : MethodName := ⟨RX1, "<init>", "()V"⟩
abbrev cX1_renew : ByteArray := prog_3_method_2_code
def yX1_renew : MethodName := ⟨RX1, "renew", "(I)V"⟩
abbrev cX1_hasPin : ByteArray := prog_3_method_3_code
def yX1_hasPin : MethodName := ⟨RX1, "hasPin", "(II)Z"⟩
abbrev cX1_fits : ByteArray := prog_3_method_4_code
def yX1_fits : MethodName := ⟨RX1, "fits", "(LCarillonDesk$Score;)Z"⟩
abbrev cX1_pinDown : ByteArray := prog_3_method_5_code
def yX1_pinDown : MethodName := ⟨RX1, "pinDown", "(LCarillonDesk$Score;I)V"⟩
abbrev cX1_copyFrom : ByteArray := prog_3_method_6_code
def yX1_copyFrom : MethodName := ⟨RX1, "copyFrom", "(LCarillonDesk$Drum;)V"⟩
def RX2 : String := "CarillonDesk$Matter"
def TX2 : u_T := fun k => match k with
  | 0 => ("CarillonDesk$Matter", "music", "LCarillonDesk$Score;", true)
  | 1 => ("CarillonDesk$Matter", "tones", "LCarillonDesk$Tones;", true)
  | 2 => ("CarillonDesk$Matter", "barrel", "LCarillonDesk$Drum;", true)
  | 3 => ("CarillonDesk$Matter", "clappers", "LCarillonDesk$Clappers;", true)
  | 4 => ("CarillonDesk$Matter", "faultKind", "I", false)
  | 5 => ("CarillonDesk$Matter", "faultPlace", "I", false)
  | 6 => ("CarillonDesk$Matter", "reach", "I", false)
  | _ => ("CarillonDesk$Matter", "price", "I", false)
def tyX2 : Nat → FieldType := fun k => match k with
  | 0 => .object "CarillonDesk$Score"
  | 1 => .object "CarillonDesk$Tones"
  | 2 => .object "CarillonDesk$Drum"
  | 3 => .object "CarillonDesk$Clappers"
  | 4 => .int
  | 5 => .int
  | 6 => .int
  | _ => .int
abbrev wsX20 : List Cond := u_ws RX2 TX2 8
theorem nmX2 : ∀ a, a < 8 → ∀ b, b < 8 → a ≠ b → (TX2 a).2.1 ≠ (TX2 b).2.1 := by decide +kernel
theorem tyX2_ok : ∀ k, k < 8 → parseFieldDescriptor (TX2 k).2.2.1 = some (tyX2 k) := by decide +kernel
abbrev cX2_init : ByteArray := prog_4_method_1_code
def yX2_init : MethodName := ⟨RX2, "<init>", "()V"⟩
abbrev cX2_copyFrom : ByteArray := prog_4_method_2_code
def yX2_copyFrom : MethodName := ⟨RX2, "copyFrom", "(LCarillonDesk$Matter;)V"⟩
def RX3 : String := "CarillonDesk$Need"
def TX3 : u_T := fun k => match k with
  | 0 => ("CarillonDesk$Need", "music", "LCarillonDesk$Score;", true)
  | _ => ("CarillonDesk$Need", "soFar", "[[I", true)
def tyX3 : Nat → FieldType := fun k => match k with
  | 0 => .object "CarillonDesk$Score"
  | _ => .array (.array .int)
abbrev wsX30 : List Cond := u_ws RX3 TX3 2
theorem nmX3 : ∀ a, a < 2 → ∀ b, b < 2 → a ≠ b → (TX3 a).2.1 ≠ (TX3 b).2.1 := by decide +kernel
theorem tyX3_ok : ∀ k, k < 2 → parseFieldDescriptor (TX3 k).2.2.1 = some (tyX3 k) := by decide +kernel
abbrev cX3_init : ByteArray := prog_5_method_1_code
def yX3_init : MethodName := ⟨RX3, "<init>", "(LCarillonDesk$Score;)V"⟩
abbrev cX3_leastReach : ByteArray := prog_5_method_2_code
def yX3_leastReach : MethodName := ⟨RX3, "leastReach", "()I"⟩
abbrev cX3_handOver : ByteArray := prog_5_method_3_code
def yX3_handOver : MethodName := ⟨RX3, "handOver", "(II)I"⟩
abbrev cX3_stay : ByteArray := prog_5_method_4_code
def yX3_stay : MethodName := ⟨RX3, "stay", "(II)V"⟩
abbrev cX3_reachFor : ByteArray := prog_5_method_5_code
def yX3_reachFor : MethodName := ⟨RX3, "reachFor", "(II)I"⟩
def RX4 : String := "CarillonDesk$Reader"
def TX4 : u_T := fun k => match k with
  | 0 => ("CarillonDesk$Reader", "draft", "LCarillonDesk$Score;", true)
  | 1 => ("CarillonDesk$Reader", "faultKind", "I", false)
  | 2 => ("CarillonDesk$Reader", "faultPlace", "I", false)
  | 3 => ("CarillonDesk$Reader", "tape", "LCarillonDesk$Tape;", true)
  | 4 => ("CarillonDesk$Reader", "bodyPlace", "[I", true)
  | 5 => ("CarillonDesk$Reader", "roundsLeft", "[I", true)
  | 6 => ("CarillonDesk$Reader", "lengthAhead", "[I", true)
  | 7 => ("CarillonDesk$Reader", "tickAhead", "[I", true)
  | 8 => ("CarillonDesk$Reader", "open", "I", false)
  | 9 => ("CarillonDesk$Reader", "place", "I", false)
  | 10 => ("CarillonDesk$Reader", "numberPlace", "I", false)
  | 11 => ("CarillonDesk$Reader", "length", "I", false)
  | 12 => ("CarillonDesk$Reader", "tick", "I", false)
  | 13 => ("CarillonDesk$Reader", "firstOfTwo", "I", false)
  | 14 => ("CarillonDesk$Reader", "secondOfTwo", "I", false)
  | _ => ("CarillonDesk$Reader", "bellMask", "I", false)
def tyX4 : Nat → FieldType := fun k => match k with
  | 0 => .object "CarillonDesk$Score"
  | 1 => .int
  | 2 => .int
  | 3 => .object "CarillonDesk$Tape"
  | 4 => .array .int
  | 5 => .array .int
  | 6 => .array .int
  | 7 => .array .int
  | 8 => .int
  | 9 => .int
  | 10 => .int
  | 11 => .int
  | 12 => .int
  | 13 => .int
  | 14 => .int
  | _ => .int
abbrev wsX40 : List Cond := u_ws RX4 TX4 16
theorem nmX4 : ∀ a, a < 16 → ∀ b, b < 16 → a ≠ b → (TX4 a).2.1 ≠ (TX4 b).2.1 := by decide +kernel
theorem tyX4_ok : ∀ k, k < 16 → parseFieldDescriptor (TX4 k).2.2.1 = some (tyX4 k) := by decide +kernel
abbrev cX4_init : ByteArray := prog_6_method_1_code
def yX4_init : MethodName := ⟨RX4, "<init>", "(LCarillonDesk$Tape;)V"⟩
abbrev cX4_readAll : ByteArray := prog_6_method_2_code
def yX4_readAll : MethodName := ⟨RX4, "readAll", "()Z"⟩
abbrev cX4_start : ByteArray := prog_6_method_3_code
def yX4_start : MethodName := ⟨RX4, "start", "()V"⟩
abbrev cX4_openGroup : ByteArray := prog_6_method_4_code
def yX4_openGroup : MethodName := ⟨RX4, "openGroup", "()V"⟩
abbrev cX4_closeGroup : ByteArray := prog_6_method_5_code
def yX4_closeGroup : MethodName := ⟨RX4, "closeGroup", "()V"⟩
abbrev cX4_readItem : ByteArray := prog_6_method_6_code
def yX4_readItem : MethodName := ⟨RX4, "readItem", "(I)V"⟩
abbrev cX4_readChord : ByteArray := prog_6_method_7_code
def yX4_readChord : MethodName := ⟨RX4, "readChord", "()V"⟩
abbrev cX4_readBell : ByteArray := prog_6_method_8_code
def yX4_readBell : MethodName := ⟨RX4, "readBell", "()I"⟩
abbrev cX4_readLength : ByteArray := prog_6_method_9_code
def yX4_readLength : MethodName := ⟨RX4, "readLength", "()V"⟩
abbrev cX4_writeItem : ByteArray := prog_6_method_10_code
def yX4_writeItem : MethodName := ⟨RX4, "writeItem", "(ZI)V"⟩
abbrev cX4_readNumber : ByteArray := prog_6_method_11_code
def yX4_readNumber : MethodName := ⟨RX4, "readNumber", "(II)I"⟩
abbrev cX4_expect : ByteArray := prog_6_method_12_code
def yX4_expect : MethodName := ⟨RX4, "expect", "(C)V"⟩
abbrev cX4_fail : ByteArray := prog_6_method_13_code
def yX4_fail : MethodName := ⟨RX4, "fail", "(II)V"⟩
abbrev cX4_nextSign : ByteArray := prog_6_method_14_code
def yX4_nextSign : MethodName := ⟨RX4, "nextSign", "()I"⟩
abbrev cX4_signHere : ByteArray := prog_6_method_15_code
def yX4_signHere : MethodName := ⟨RX4, "signHere", "()I"⟩
abbrev cX4_isDigit : ByteArray := prog_6_method_16_code
def yX4_isDigit : MethodName := ⟨RX4, "isDigit", "(I)Z"⟩
def RX5 : String := "CarillonDesk$Score"
def TX5 : u_T := fun k => match k with
  | 0 => ("CarillonDesk$Score", "ticks", "[I", true)
  | 1 => ("CarillonDesk$Score", "bells", "[I", true)
  | 2 => ("CarillonDesk$Score", "size", "I", false)
  | _ => ("CarillonDesk$Score", "behind", "I", false)
def tyX5 : Nat → FieldType := fun k => match k with
  | 0 => .array .int
  | 1 => .array .int
  | 2 => .int
  | _ => .int
abbrev wsX50 : List Cond := u_ws RX5 TX5 4
theorem nmX5 : ∀ a, a < 4 → ∀ b, b < 4 → a ≠ b → (TX5 a).2.1 ≠ (TX5 b).2.1 := by decide +kernel
theorem tyX5_ok : ∀ k, k < 4 → parseFieldDescriptor (TX5 k).2.2.1 = some (tyX5 k) := by decide +kernel
abbrev cX5_init : ByteArray := prog_7_method_1_code
def yX5_init : MethodName := ⟨RX5, "<init>", "()V"⟩
abbrev cX5_has : ByteArray := prog_7_method_2_code
def yX5_has : MethodName := ⟨RX5, "has", "(I)Z"⟩
abbrev cX5_clear : ByteArray := prog_7_method_3_code
def yX5_clear : MethodName := ⟨RX5, "clear", "()V"⟩
abbrev cX5_addStrike : ByteArray := prog_7_method_4_code
def yX5_addStrike : MethodName := ⟨RX5, "addStrike", "(II)V"⟩
abbrev cX5_bellsBetween : ByteArray := prog_7_method_5_code
def yX5_bellsBetween : MethodName := ⟨RX5, "bellsBetween", "(II)I"⟩
abbrev cX5_copyFrom : ByteArray := prog_7_method_6_code
def yX5_copyFrom : MethodName := ⟨RX5, "copyFrom", "(LCarillonDesk$Score;)V"⟩
def RX6 : String := "CarillonDesk$Setting"
def TX6 : u_T := fun k => match k with
  | 0 => ("CarillonDesk$Setting", "who", "[I", true)
  | 1 => ("CarillonDesk$Setting", "gone", "[I", true)
  | 2 => ("CarillonDesk$Setting", "total", "I", false)
  | 3 => ("CarillonDesk$Setting", "leftOut", "I", false)
  | 4 => ("CarillonDesk$Setting", "music", "LCarillonDesk$Score;", true)
  | 5 => ("CarillonDesk$Setting", "rest", "[I", true)
  | 6 => ("CarillonDesk$Setting", "reach", "I", false)
  | _ => ("CarillonDesk$Setting", "price", "I", false)
def tyX6 : Nat → FieldType := fun k => match k with
  | 0 => .array .int
  | 1 => .array .int
  | 2 => .int
  | 3 => .int
  | 4 => .object "CarillonDesk$Score"
  | 5 => .array .int
  | 6 => .int
  | _ => .int
abbrev wsX60 : List Cond := u_ws RX6 TX6 8
theorem nmX6 : ∀ a, a < 8 → ∀ b, b < 8 → a ≠ b → (TX6 a).2.1 ≠ (TX6 b).2.1 := by decide +kernel
theorem tyX6_ok : ∀ k, k < 8 → parseFieldDescriptor (TX6 k).2.2.1 = some (tyX6 k) := by decide +kernel
abbrev cX6_init : ByteArray := prog_8_method_1_code
def yX6_init : MethodName := ⟨RX6, "<init>", "(LCarillonDesk$Score;)V"⟩
abbrev cX6_settle : ByteArray := prog_8_method_2_code
def yX6_settle : MethodName := ⟨RX6, "settle", "(II)V"⟩
abbrev cX6_spot : ByteArray := prog_8_method_3_code
def yX6_spot : MethodName := ⟨RX6, "spot", "(II)I"⟩
abbrev cX6_leastRest : ByteArray := prog_8_method_4_code
def yX6_leastRest : MethodName := ⟨RX6, "leastRest", "(II)I"⟩
abbrev cX6_costBy : ByteArray := prog_8_method_5_code
def yX6_costBy : MethodName := ⟨RX6, "costBy", "(IIII)I"⟩
abbrev cX6_moveTo : ByteArray := prog_8_method_6_code
def yX6_moveTo : MethodName := ⟨RX6, "moveTo", "(II)I"⟩
abbrev cX6_walk : ByteArray := prog_8_method_7_code
def yX6_walk : MethodName := ⟨RX6, "walk", "()V"⟩
def RX7 : String := "CarillonDesk$Tape"
def TX7 : u_T := fun k => match k with
  | 0 => ("CarillonDesk$Tape", "bytes", "[B", true)
  | _ => ("CarillonDesk$Tape", "size", "I", false)
def tyX7 : Nat → FieldType := fun k => match k with
  | 0 => .array .byte
  | _ => .int
abbrev wsX70 : List Cond := u_ws RX7 TX7 2
theorem nmX7 : ∀ a, a < 2 → ∀ b, b < 2 → a ≠ b → (TX7 a).2.1 ≠ (TX7 b).2.1 := by decide +kernel
theorem tyX7_ok : ∀ k, k < 2 → parseFieldDescriptor (TX7 k).2.2.1 = some (tyX7 k) := by decide +kernel
abbrev cX7_init : ByteArray := prog_9_method_1_code
def yX7_init : MethodName := ⟨RX7, "<init>", "()V"⟩
abbrev cX7_hasRoom : ByteArray := prog_9_method_2_code
def yX7_hasRoom : MethodName := ⟨RX7, "hasRoom", "()Z"⟩
abbrev cX7_addNumber : ByteArray := prog_9_method_3_code
def yX7_addNumber : MethodName := ⟨RX7, "addNumber", "(I)V"⟩
def RX8 : String := "CarillonDesk$Tones"
def TX8 : u_T := fun k => match k with
  | 0 => ("CarillonDesk$Tones", "tails", "[I", true)
  | 1 => ("CarillonDesk$Tones", "quarrelBits", "I", false)
  | _ => ("CarillonDesk$Tones", "lengths", "[I", true)
def tyX8 : Nat → FieldType := fun k => match k with
  | 0 => .array .int
  | 1 => .int
  | _ => .array .int
abbrev wsX80 : List Cond := u_ws RX8 TX8 3
theorem nmX8 : ∀ a, a < 3 → ∀ b, b < 3 → a ≠ b → (TX8 a).2.1 ≠ (TX8 b).2.1 := by decide +kernel
theorem tyX8_ok : ∀ k, k < 3 → parseFieldDescriptor (TX8 k).2.2.1 = some (tyX8 k) := by decide +kernel
abbrev cX8_init : ByteArray := prog_10_method_1_code
def yX8_init : MethodName := ⟨RX8, "<init>", "()V"⟩
abbrev cX8_soundLength : ByteArray := prog_10_method_2_code
def yX8_soundLength : MethodName := ⟨RX8, "soundLength", "(LCarillonDesk$Score;I)I"⟩
abbrev cX8_quarrelTicks : ByteArray := prog_10_method_3_code
def yX8_quarrelTicks : MethodName := ⟨RX8, "quarrelTicks", "(LCarillonDesk$Score;)I"⟩
abbrev cX8_canQuarrel : ByteArray := prog_10_method_4_code
def yX8_canQuarrel : MethodName := ⟨RX8, "canQuarrel", "(LCarillonDesk$Score;II)Z"⟩
abbrev cX8_ticksTogether : ByteArray := prog_10_method_5_code
def yX8_ticksTogether : MethodName := ⟨RX8, "ticksTogether", "(LCarillonDesk$Score;II)I"⟩
abbrev cX8_copyFrom : ByteArray := prog_10_method_6_code
def yX8_copyFrom : MethodName := ⟨RX8, "copyFrom", "(LCarillonDesk$Tones;)V"⟩
def RX9 : String := "CarillonDesk$Turns"
def TX9 : u_T := fun k => match k with
  | 0 => ("CarillonDesk$Turns", "best", "I", false)
  | 1 => ("CarillonDesk$Turns", "mostKept", "I", false)
  | _ => ("CarillonDesk$Turns", "kept", "[I", true)
def tyX9 : Nat → FieldType := fun k => match k with
  | 0 => .int
  | 1 => .int
  | _ => .array .int
abbrev wsX90 : List Cond := u_ws RX9 TX9 3
theorem nmX9 : ∀ a, a < 3 → ∀ b, b < 3 → a ≠ b → (TX9 a).2.1 ≠ (TX9 b).2.1 := by decide +kernel
theorem tyX9_ok : ∀ k, k < 3 → parseFieldDescriptor (TX9 k).2.2.1 = some (tyX9 k) := by decide +kernel
abbrev cX9_init : ByteArray := prog_11_method_1_code
def yX9_init : MethodName := ⟨RX9, "<init>", "()V"⟩
abbrev cX9_find : ByteArray := prog_11_method_2_code
def yX9_find : MethodName := ⟨RX9, "find", "(LCarillonDesk$Drum;LCarillonDesk$Score;)V"⟩
def RX10 : String := "CarillonDesk"
def TX10 : u_T := fun k => match k with
  | 0 => ("CarillonDesk", "tape", "LCarillonDesk$Tape;", true)
  | 1 => ("CarillonDesk", "reader", "LCarillonDesk$Reader;", true)
  | 2 => ("CarillonDesk", "now", "LCarillonDesk$Matter;", true)
  | 3 => ("CarillonDesk", "images", "[LCarillonDesk$Matter;", true)
  | 4 => ("CarillonDesk", "setting", "LCarillonDesk$Setting;", true)
  | 5 => ("CarillonDesk", "least", "LCarillonDesk$Need;", true)
  | 6 => ("CarillonDesk", "turns", "LCarillonDesk$Turns;", true)
  | _ => ("CarillonDesk", "settled", "Z", false)
def tyX10 : Nat → FieldType := fun k => match k with
  | 0 => .object "CarillonDesk$Tape"
  | 1 => .object "CarillonDesk$Reader"
  | 2 => .object "CarillonDesk$Matter"
  | 3 => .array (.object "CarillonDesk$Matter")
  | 4 => .object "CarillonDesk$Setting"
  | 5 => .object "CarillonDesk$Need"
  | 6 => .object "CarillonDesk$Turns"
  | _ => .boolean
abbrev wsX100 : List Cond := u_ws RX10 TX10 8
theorem nmX10 : ∀ a, a < 8 → ∀ b, b < 8 → a ≠ b → (TX10 a).2.1 ≠ (TX10 b).2.1 := by decide +kernel
theorem tyX10_ok : ∀ k, k < 8 → parseFieldDescriptor (TX10 k).2.2.1 = some (tyX10 k) := by decide +kernel
abbrev cX10_init : ByteArray := prog_1_method_1_code
def yX10_init : MethodName := ⟨RX10, "<init>", "()V"⟩
abbrev cX10_feed : ByteArray := prog_1_method_2_code
def yX10_feed : MethodName := ⟨RX10, "feed", "(IIIII)I"⟩
abbrev cX10_end : ByteArray := prog_1_method_3_code
def yX10_end : MethodName := ⟨RX10, "end", "(I)Z"⟩
abbrev cX10_score : ByteArray := prog_1_method_4_code
def yX10_score : MethodName := ⟨RX10, "score", "()I"⟩
abbrev cX10_fault : ByteArray := prog_1_method_5_code
def yX10_fault : MethodName := ⟨RX10, "fault", "(I)I"⟩
abbrev cX10_strike : ByteArray := prog_1_method_6_code
def yX10_strike : MethodName := ⟨RX10, "strike", "(II)I"⟩
abbrev cX10_count : ByteArray := prog_1_method_7_code
def yX10_count : MethodName := ⟨RX10, "count", "(I)I"⟩
abbrev cX10_fists : ByteArray := prog_1_method_8_code
def yX10_fists : MethodName := ⟨RX10, "fists", "(II)Z"⟩
abbrev cX10_cost : ByteArray := prog_1_method_9_code
def yX10_cost : MethodName := ⟨RX10, "cost", "()I"⟩
abbrev cX10_need : ByteArray := prog_1_method_10_code
def yX10_need : MethodName := ⟨RX10, "need", "()I"⟩
abbrev cX10_by : ByteArray := prog_1_method_11_code
def yX10_by : MethodName := ⟨RX10, "by", "(I)I"⟩
abbrev cX10_way : ByteArray := prog_1_method_12_code
def yX10_way : MethodName := ⟨RX10, "way", "(I)I"⟩
abbrev cX10_tail : ByteArray := prog_1_method_13_code
def yX10_tail : MethodName := ⟨RX10, "tail", "(II)I"⟩
abbrev cX10_quarrel : ByteArray := prog_1_method_14_code
def yX10_quarrel : MethodName := ⟨RX10, "quarrel", "(I)I"⟩
abbrev cX10_quarrels : ByteArray := prog_1_method_15_code
def yX10_quarrels : MethodName := ⟨RX10, "quarrels", "()I"⟩
abbrev cX10_sounds : ByteArray := prog_1_method_16_code
def yX10_sounds : MethodName := ⟨RX10, "sounds", "(I)I"⟩
abbrev cX10_drum : ByteArray := prog_1_method_17_code
def yX10_drum : MethodName := ⟨RX10, "drum", "(I)Z"⟩
abbrev cX10_change : ByteArray := prog_1_method_18_code
def yX10_change : MethodName := ⟨RX10, "change", "()I"⟩
abbrev cX10_turn : ByteArray := prog_1_method_19_code
def yX10_turn : MethodName := ⟨RX10, "turn", "()I"⟩
abbrev cX10_pin : ByteArray := prog_1_method_20_code
def yX10_pin : MethodName := ⟨RX10, "pin", "(II)I"⟩
abbrev cX10_pins : ByteArray := prog_1_method_21_code
def yX10_pins : MethodName := ⟨RX10, "pins", "()I"⟩
abbrev cX10_play : ByteArray := prog_1_method_22_code
def yX10_play : MethodName := ⟨RX10, "play", "(I)I"⟩
abbrev cX10_strikes : ByteArray := prog_1_method_23_code
def yX10_strikes : MethodName := ⟨RX10, "strikes", "(I)J"⟩
abbrev cX10_mend : ByteArray := prog_1_method_24_code
def yX10_mend : MethodName := ⟨RX10, "mend", "(I)J"⟩
abbrev cX10_worn : ByteArray := prog_1_method_25_code
def yX10_worn : MethodName := ⟨RX10, "worn", "(I)I"⟩
abbrev cX10_image : ByteArray := prog_1_method_26_code
def yX10_image : MethodName := ⟨RX10, "image", "(I)Z"⟩
abbrev cX10_back : ByteArray := prog_1_method_27_code
def yX10_back : MethodName := ⟨RX10, "back", "(I)Z"⟩
abbrev cX10_isBell : ByteArray := prog_1_method_28_code
def yX10_isBell : MethodName := ⟨RX10, "isBell", "(I)Z"⟩
abbrev cX10_theSetting : ByteArray := prog_1_method_29_code
def yX10_theSetting : MethodName := ⟨RX10, "theSetting", "()LCarillonDesk$Setting;"⟩
def RX11 : String := "CarillonDeskModel"
def TX11 : u_T := fun k => match k with
  | 0 => ("CarillonDeskModel", "d", "[I", true)
  | 1 => ("CarillonDeskModel", "struck", "[J", true)
  | 2 => ("CarillonDeskModel", "isKept", "[Z", true)
  | 3 => ("CarillonDeskModel", "tape", "[I", true)
  | 4 => ("CarillonDeskModel", "taped", "I", false)
  | 5 => ("CarillonDeskModel", "at", "I", false)
  | 6 => ("CarillonDeskModel", "size", "I", false)
  | 7 => ("CarillonDeskModel", "bad", "I", false)
  | 8 => ("CarillonDeskModel", "badPlace", "I", false)
  | 9 => ("CarillonDeskModel", "begun", "I", false)
  | 10 => ("CarillonDeskModel", "strikes", "I", false)
  | 11 => ("CarillonDeskModel", "tick", "I", false)
  | 12 => ("CarillonDeskModel", "newTick", "[I", true)
  | 13 => ("CarillonDeskModel", "newBell", "[I", true)
  | 14 => ("CarillonDeskModel", "lengthAt", "[I", true)
  | 15 => ("CarillonDeskModel", "latest", "I", false)
  | 16 => ("CarillonDeskModel", "open", "I", false)
  | 17 => ("CarillonDeskModel", "from", "[I", true)
  | 18 => ("CarillonDeskModel", "rounds", "[I", true)
  | 19 => ("CarillonDeskModel", "bells", "[I", true)
  | 20 => ("CarillonDeskModel", "least", "[I", true)
  | 21 => ("CarillonDeskModel", "choice", "[I", true)
  | _ => ("CarillonDeskModel", "went", "[I", true)
def tyX11 : Nat → FieldType := fun k => match k with
  | 0 => .array .int
  | 1 => .array .long
  | 2 => .array .boolean
  | 3 => .array .int
  | 4 => .int
  | 5 => .int
  | 6 => .int
  | 7 => .int
  | 8 => .int
  | 9 => .int
  | 10 => .int
  | 11 => .int
  | 12 => .array .int
  | 13 => .array .int
  | 14 => .array .int
  | 15 => .int
  | 16 => .int
  | 17 => .array .int
  | 18 => .array .int
  | 19 => .array .int
  | 20 => .array .int
  | 21 => .array .int
  | _ => .array .int
abbrev wsX110 : List Cond := u_ws RX11 TX11 23
theorem nmX11 : ∀ a, a < 23 → ∀ b, b < 23 → a ≠ b → (TX11 a).2.1 ≠ (TX11 b).2.1 := by decide +kernel
theorem tyX11_ok : ∀ k, k < 23 → parseFieldDescriptor (TX11 k).2.2.1 = some (tyX11 k) := by decide +kernel
abbrev cX11_init : ByteArray := prog_13_method_1_code
def yX11_init : MethodName := ⟨RX11, "<init>", "()V"⟩
abbrev cX11_image : ByteArray := prog_13_method_2_code
def yX11_image : MethodName := ⟨RX11, "image", "(I)Z"⟩
abbrev cX11_back : ByteArray := prog_13_method_3_code
def yX11_back : MethodName := ⟨RX11, "back", "(I)Z"⟩
abbrev cX11_feed : ByteArray := prog_13_method_4_code
def yX11_feed : MethodName := ⟨RX11, "feed", "(IIIII)I"⟩
abbrev cX11_end : ByteArray := prog_13_method_5_code
def yX11_end : MethodName := ⟨RX11, "end", "(I)Z"⟩
abbrev cX11_fail : ByteArray := prog_13_method_6_code
def yX11_fail : MethodName := ⟨RX11, "fail", "(II)V"⟩
abbrev cX11_next : ByteArray := prog_13_method_7_code
def yX11_next : MethodName := ⟨RX11, "next", "()I"⟩
abbrev cX11_sign : ByteArray := prog_13_method_8_code
def yX11_sign : MethodName := ⟨RX11, "sign", "(I)V"⟩
abbrev cX11_isDigit : ByteArray := prog_13_method_9_code
def yX11_isDigit : MethodName := ⟨RX11, "isDigit", "(I)Z"⟩
abbrev cX11_number : ByteArray := prog_13_method_10_code
def yX11_number : MethodName := ⟨RX11, "number", "(II)I"⟩
abbrev cX11_length : ByteArray := prog_13_method_11_code
def yX11_length : MethodName := ⟨RX11, "length", "(I)I"⟩
abbrev cX11_strikesHere : ByteArray := prog_13_method_12_code
def yX11_strikesHere : MethodName := ⟨RX11, "strikesHere", "(III)V"⟩
abbrev cX11_item : ByteArray := prog_13_method_13_code
def yX11_item : MethodName := ⟨RX11, "item", "()V"⟩
abbrev cX11_group : ByteArray := prog_13_method_14_code
def yX11_group : MethodName := ⟨RX11, "group", "()V"⟩
abbrev cX11_ends : ByteArray := prog_13_method_15_code
def yX11_ends : MethodName := ⟨RX11, "ends", "()V"⟩
abbrev cX11_score : ByteArray := prog_13_method_16_code
def yX11_score : MethodName := ⟨RX11, "score", "()I"⟩
abbrev cX11_fault : ByteArray := prog_13_method_17_code
def yX11_fault : MethodName := ⟨RX11, "fault", "(I)I"⟩
abbrev cX11_strike : ByteArray := prog_13_method_18_code
def yX11_strike : MethodName := ⟨RX11, "strike", "(II)I"⟩
abbrev cX11_place : ByteArray := prog_13_method_19_code
def yX11_place : MethodName := ⟨RX11, "place", "(III)I"⟩
abbrev cX11_moves : ByteArray := prog_13_method_20_code
def yX11_moves : MethodName := ⟨RX11, "moves", "(III)I"⟩
abbrev cX11_isCrossed : ByteArray := prog_13_method_21_code
def yX11_isCrossed : MethodName := ⟨RX11, "isCrossed", "(II)Z"⟩
abbrev cX11_costOf : ByteArray := prog_13_method_22_code
def yX11_costOf : MethodName := ⟨RX11, "costOf", "(IIIIII)I"⟩
abbrev cX11_behind : ByteArray := prog_13_method_23_code
def yX11_behind : MethodName := ⟨RX11, "behind", "(IIII)I"⟩
abbrev cX11_weighs : ByteArray := prog_13_method_24_code
def yX11_weighs : MethodName := ⟨RX11, "weighs", "(II)I"⟩
abbrev cX11_sets : ByteArray := prog_13_method_25_code
def yX11_sets : MethodName := ⟨RX11, "sets", "()I"⟩
abbrev cX11_fists : ByteArray := prog_13_method_26_code
def yX11_fists : MethodName := ⟨RX11, "fists", "(II)Z"⟩
abbrev cX11_cost : ByteArray := prog_13_method_27_code
def yX11_cost : MethodName := ⟨RX11, "cost", "()I"⟩
abbrev cX11_need : ByteArray := prog_13_method_28_code
def yX11_need : MethodName := ⟨RX11, "need", "()I"⟩
abbrev cX11_by : ByteArray := prog_13_method_29_code
def yX11_by : MethodName := ⟨RX11, "by", "(I)I"⟩
abbrev cX11_way : ByteArray := prog_13_method_30_code
def yX11_way : MethodName := ⟨RX11, "way", "(I)I"⟩
abbrev cX11_count : ByteArray := prog_13_method_31_code
def yX11_count : MethodName := ⟨RX11, "count", "(I)I"⟩
abbrev cX11_isBell : ByteArray := prog_13_method_32_code
def yX11_isBell : MethodName := ⟨RX11, "isBell", "(I)Z"⟩
abbrev cX11_tail : ByteArray := prog_13_method_33_code
def yX11_tail : MethodName := ⟨RX11, "tail", "(II)I"⟩
abbrev cX11_quarrel : ByteArray := prog_13_method_34_code
def yX11_quarrel : MethodName := ⟨RX11, "quarrel", "(I)I"⟩
abbrev cX11_sounds : ByteArray := prog_13_method_35_code
def yX11_sounds : MethodName := ⟨RX11, "sounds", "(I)I"⟩
abbrev cX11_quarrels : ByteArray := prog_13_method_36_code
def yX11_quarrels : MethodName := ⟨RX11, "quarrels", "()I"⟩
abbrev cX11_drum : ByteArray := prog_13_method_37_code
def yX11_drum : MethodName := ⟨RX11, "drum", "(I)Z"⟩
abbrev cX11_stepOf : ByteArray := prog_13_method_38_code
def yX11_stepOf : MethodName := ⟨RX11, "stepOf", "(II)I"⟩
abbrev cX11_change : ByteArray := prog_13_method_39_code
def yX11_change : MethodName := ⟨RX11, "change", "()I"⟩
abbrev cX11_turn : ByteArray := prog_13_method_40_code
def yX11_turn : MethodName := ⟨RX11, "turn", "()I"⟩
abbrev cX11_pin : ByteArray := prog_13_method_41_code
def yX11_pin : MethodName := ⟨RX11, "pin", "(II)I"⟩
abbrev cX11_pins : ByteArray := prog_13_method_42_code
def yX11_pins : MethodName := ⟨RX11, "pins", "()I"⟩
abbrev cX11_play : ByteArray := prog_13_method_43_code
def yX11_play : MethodName := ⟨RX11, "play", "(I)I"⟩
abbrev cX11_strikes : ByteArray := prog_13_method_44_code
def yX11_strikes : MethodName := ⟨RX11, "strikes", "(I)J"⟩
abbrev cX11_mend : ByteArray := prog_13_method_45_code
def yX11_mend : MethodName := ⟨RX11, "mend", "(I)J"⟩
abbrev cX11_worn : ByteArray := prog_13_method_46_code
def yX11_worn : MethodName := ⟨RX11, "worn", "(I)I"⟩
def RJ6 : String := "java/lang/Integer"
def TJ6 : u_T := fun k => match k with
  | _ => ("", "", "", false)
def tyJ6 : Nat → FieldType := fun k => match k with
  | _ => .int
abbrev wsJ60 : List Cond := u_ws RJ6 TJ6 0
theorem nmJ6 : ∀ a, a < 0 → ∀ b, b < 0 → a ≠ b → (TJ6 a).2.1 ≠ (TJ6 b).2.1 := by decide +kernel
theorem tyJ6_ok : ∀ k, k < 0 → parseFieldDescriptor (TJ6 k).2.2.1 = some (tyJ6 k) := by decide +kernel
abbrev cJ6_bitCount_0f7a4 : ByteArray := prog_14_method_49_code
def yJ6_bitCount_0f7a4 : MethodName := ⟨RJ6, "bitCount", "(I)I"⟩
def RJ9 : String := "java/lang/Math"
def TJ9 : u_T := fun k => match k with
  | _ => ("", "", "", false)
def tyJ9 : Nat → FieldType := fun k => match k with
  | _ => .int
abbrev wsJ90 : List Cond := u_ws RJ9 TJ9 0
theorem nmJ9 : ∀ a, a < 0 → ∀ b, b < 0 → a ≠ b → (TJ9 a).2.1 ≠ (TJ9 b).2.1 := by decide +kernel
theorem tyJ9_ok : ∀ k, k < 0 → parseFieldDescriptor (TJ9 k).2.2.1 = some (tyJ9 k) := by decide +kernel
abbrev cJ9_abs_0f7a4 : ByteArray := prog_15_method_59_code
def yJ9_abs_0f7a4 : MethodName := ⟨RJ9, "abs", "(I)I"⟩
abbrev cJ9_max_7cf53 : ByteArray := prog_15_method_65_code
def yJ9_max_7cf53 : MethodName := ⟨RJ9, "max", "(II)I"⟩
abbrev cJ9_min_7cf53 : ByteArray := prog_15_method_69_code
def yJ9_min_7cf53 : MethodName := ⟨RJ9, "min", "(II)I"⟩
def RJ10 : String := "java/lang/System"
def TJ10 : u_T := fun k => match k with
  | _ => ("", "", "", false)
def tyJ10 : Nat → FieldType := fun k => match k with
  | _ => .int
abbrev wsJ100 : List Cond := u_ws RJ10 TJ10 0
theorem nmJ10 : ∀ a, a < 0 → ∀ b, b < 0 → a ≠ b → (TJ10 a).2.1 ≠ (TJ10 b).2.1 := by decide +kernel
theorem tyJ10_ok : ∀ k, k < 0 → parseFieldDescriptor (TJ10 k).2.2.1 = some (tyJ10 k) := by decide +kernel
def RL : String := "CarillonDeskLaw"
abbrev cL_law : ByteArray := code
def yL_law : MethodName := ⟨RL, "law", "([I)Z"⟩
abbrev vwCl : List vw_C := [(RX0, TX0, 1), (RX1, TX1, 5), (RX2, TX2, 8), (RX3, TX3, 2), (RX4, TX4, 16), (RX5, TX5, 4), (RX6, TX6, 8), (RX7, TX7, 2), (RX8, TX8, 3), (RX9, TX9, 3), (RX10, TX10, 8), (RX11, TX11, 23)]
theorem inX0 : ∀ w ∈ wsX00, w ∈ lw_tbl := by decide +kernel
theorem inX1 : ∀ w ∈ wsX10, w ∈ lw_tbl := by decide +kernel
theorem inX2 : ∀ w ∈ wsX20, w ∈ lw_tbl := by decide +kernel
theorem inX3 : ∀ w ∈ wsX30, w ∈ lw_tbl := by decide +kernel
theorem inX4 : ∀ w ∈ wsX40, w ∈ lw_tbl := by decide +kernel
theorem inX5 : ∀ w ∈ wsX50, w ∈ lw_tbl := by decide +kernel
theorem inX6 : ∀ w ∈ wsX60, w ∈ lw_tbl := by decide +kernel
theorem inX7 : ∀ w ∈ wsX70, w ∈ lw_tbl := by decide +kernel
theorem inX8 : ∀ w ∈ wsX80, w ∈ lw_tbl := by decide +kernel
theorem inX9 : ∀ w ∈ wsX90, w ∈ lw_tbl := by decide +kernel
theorem inX10 : ∀ w ∈ wsX100, w ∈ lw_tbl := by decide +kernel
theorem inX11 : ∀ w ∈ wsX110, w ∈ lw_tbl := by decide +kernel
