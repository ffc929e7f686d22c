/-! ===== which fields are references ===== -/
def FKs : List (List Nat) := [[1], [1, 1, 0, 0, 0], [1, 1, 1, 1, 0, 0, 0, 0], [1, 1], [1, 0, 0, 1, 1, 1, 1, 1, 0, 0, 0, 0, 0, 0, 0, 0], [1, 1, 0, 0], [1, 1, 0, 0, 1, 1, 0, 0], [1, 0], [1, 0, 1], [0, 0, 1], [1, 1, 1, 1, 1, 1, 1, 0], [1, 1, 1, 1, 0, 0, 0, 0, 0, 0, 0, 0, 1, 1, 1, 0, 0, 1, 1, 1, 1, 1, 1]]
def FK (ci : Nat) : List Nat := FKs.getD ci []
/-- the tables' words that stay as they are -/
def tg : List Cond := lw_tbl.filter goodWord
theorem mem_tg {w : Cond} (h : w ∈ lw_tbl) (hg : goodWord w = true) : w ∈ tg := List.mem_filter.mpr ⟨h, hg⟩
theorem tg_good {w : Cond} (h : w ∈ tg) : (w.onTables && w.keeps) = true ∨ ∃ ty, w = .arrayClass ty := good_of_word (List.mem_filter.mp h).2
theorem tg_in {y : MethodName} {cc : ByteArray} {nL : Nat} {ret : Option FieldType} (h : Cond.code y cc nL ret ∈ tg) : GoodIn tg (Cond.code y cc nL ret :: tg) := fun w hw => by
  rcases List.mem_cons.mp hw with e | e
  · subst e; exact ⟨h, tg_good h⟩
  · exact ⟨e, tg_good e⟩
def isNest : Cond → Bool
  | .methodLinkNest .. => true
  | _ => false
def AOt (ty : FieldType) (U : State) : Prop := (Cond.arrayOver ty).before #[] U = true
theorem AOt.movedO {C : String} {u U : State} (hvm : u.vm.Alike U.vm) (h : AOt (.object C) u) : AOt (.object C) U := va_AO.moved hvm h
theorem AOt.movedA {t : FieldType} {u U : State} (hal : u.vm.Alike U.vm) (h : AOt (.array t) u) : AOt (.array t) U := by
  unfold AOt at h ⊢
  simp only [Cond.before, Cond.holds, Cond.value] at h ⊢
  rw [hal.findClass]
  cases hf : u.vm.findClass (FieldType.array t).toString with
  | none => rw [hf] at h; simp at h
  | some comp =>
    rw [hf] at h
    simp only [Option.bind_some] at h ⊢
    rw [hal.findIdx_congr _ (fun _ _ _ _ => rfl)]
    generalize hF : (u.vm.classes.findIdx? fun (x : Class) => match x.kind with | .array component _ => component == comp | _ => false) = fi at h ⊢
    cases fi with
    | none => simp at h
    | some c =>
      simp only [Option.bind_some] at h ⊢
      cases hk : u.vm.classes[c]? with
      | none => rw [hk] at h; simp at h
      | some k =>
        obtain ⟨k2, hk2, ek⟩ := hal.2.2 _ _ hk
        rw [hk] at h
        rw [hk2, hal.findClass]
        have ekind : k2.kind = k.kind := by rw [ek]
        simp only [Option.map_some] at h ⊢
        rw [ekind]
        exact h
/-! ===== a thin logic over the kit: the whole heap from the law's start on as one world ===== -/
abbrev wKd : Type := Nat → Nat × Nat
abbrev wIn : Type := Nat → Nat → Int32
abbrev wLn : Type := Nat → Nat → Int64
abbrev wRf : Type := Nat → Nat → Option Nat
def zo (z : Nat) (r : Option Nat) : Option Nat := r.map (fun j => z + j)
def cv (z : Nat) (v : Value) : Value := match v with
  | .ref a => .ref (z + a)
  | .int x => .int x
  | .long x => .long x
  | .float x => .float x
  | .double x => .double x
  | .null => .null
  | .retAddr x => .ref x
theorem cv_cat (z : Nat) (v : Value) : (cv z v).category = v.category := by cases v <;> rfl
theorem cv_rf (z : Nat) (r : Option Nat) : va_rf (zo z r) = cv z (va_rf r) := by cases r <;> rfl
/-- a cell's new value -/
def up2 {α : Type} (f : Nat → Nat → α) (i k : Nat) (x : α) : Nat → Nat → α := fun a b => if a = i ∧ b = k then x else f a b
/-- a cell's new contents -/
def up1 {α : Type} (f : Nat → α) (i : Nat) (x : α) : Nat → α := fun a => if a = i then x else f a
theorem up2_s {α : Type} (f : Nat → Nat → α) (i k : Nat) (x : α) : up2 f i k x i k = x := by simp [up2]
theorem up2_n {α : Type} (f : Nat → Nat → α) (i k : Nat) (x : α) {a b : Nat} (h : ¬ (a = i ∧ b = k)) : up2 f i k x a b = f a b := by simp [up2, h]
theorem up1_s {α : Type} (f : Nat → α) (i : Nat) (x : α) : up1 f i x i = x := by simp [up1]
theorem up1_n {α : Type} (f : Nat → α) (i : Nat) (x : α) {a : Nat} (h : ¬ a = i) : up1 f i x a = f a := by simp [up1, h]
/-- which fields of a class are references: 1, and which are numbers: 0 -/
def flds (z : Nat) (I : Nat → Int32) (R : Nat → Option Nat) : List Nat → Nat → List Value
  | [], _ => []
  | f :: l, k => (if f = 0 then .int (I k) else va_rf (zo z (R k))) :: flds z I R l (k + 1)
theorem flds_get (z : Nat) (I : Nat → Int32) (R : Nat → Option Nat) : ∀ (l : List Nat) (k j f : Nat), l[j]? = some f → (flds z I R l k)[j]? = some (if f = 0 then .int (I (k + j)) else va_rf (zo z (R (k + j))))
  | [], _, _, _, h => by simp at h
  | g :: l, k, 0, f, h => by
    simp at h
    subst h
    simp [flds]
  | g :: l, k, j + 1, f, h => by
    have h1 := flds_get z I R l (k + 1) j f (by simpa using h)
    simp only [flds, List.getElem?_cons_succ]
    rw [h1, Nat.add_right_comm, Nat.add_assoc]
theorem flds_len (z : Nat) (I : Nat → Int32) (R : Nat → Option Nat) : ∀ (l : List Nat) (k : Nat), (flds z I R l k).length = l.length
  | [], _ => rfl
  | g :: l, k => by simp [flds, flds_len z I R l (k + 1)]
theorem flds_eqI (z : Nat) (I I' : Nat → Int32) (R R' : Nat → Option Nat) : ∀ (l : List Nat) (k : Nat), (∀ a, k ≤ a → I' a = I a) → (∀ a, k ≤ a → R' a = R a) → flds z I' R' l k = flds z I R l k
  | [], _, _, _ => rfl
  | g :: l, k, h, hr => by
    simp only [flds]
    rw [h k (Nat.le_refl k), hr k (Nat.le_refl k), flds_eqI z I I' R R' l (k + 1) (fun a q => h a (by omega)) (fun a q => hr a (by omega))]
theorem flds_setI (z : Nat) (I I' : Nat → Int32) (R : Nat → Option Nat) (x : Int32) : ∀ (l : List Nat) (k j : Nat), l[j]? = some 0 → I' (k + j) = x → (∀ a, a ≠ k + j → I' a = I a) → (flds z I R l k).set j (.int x) = flds z I' R l k
  | [], _, _, h, _, _ => by simp at h
  | g :: l, k, 0, h, h1, h2 => by
    simp at h
    subst h
    simp only [flds, List.set_cons_zero]
    rw [flds_eqI z I I' R R l (k + 1) (fun a q => h2 a (by omega)) (fun _ _ => rfl)]
    have h3 : I' k = x := by simpa using h1
    rw [h3]; rfl
  | g :: l, k, j + 1, h, h1, h2 => by
    simp only [flds, List.set_cons_succ]
    rw [flds_setI z I I' R x l (k + 1) j (by simpa using h) (by rw [← h1]; congr 1; omega) (fun a q => h2 a (by omega)), h2 k (by omega)]
theorem flds_setR (z : Nat) (I : Nat → Int32) (R R' : Nat → Option Nat) (x : Option Nat) : ∀ (l : List Nat) (k j : Nat), l[j]? = some 1 → R' (k + j) = x → (∀ a, a ≠ k + j → R' a = R a) → (flds z I R l k).set j (va_rf (zo z x)) = flds z I R' l k
  | [], _, _, h, _, _ => by simp at h
  | g :: l, k, 0, h, h1, h2 => by
    simp at h
    subst h
    simp only [flds, List.set_cons_zero]
    rw [flds_eqI z I I R R' l (k + 1) (fun _ _ => rfl) (fun a q => h2 a (by omega))]
    have h3 : R' k = x := by simpa using h1
    rw [h3]; rfl
  | g :: l, k, j + 1, h, h1, h2 => by
    simp only [flds, List.set_cons_succ]
    rw [flds_setR z I R R' x l (k + 1) j (by simpa using h) (by rw [← h1]; congr 1; omega) (fun a q => h2 a (by omega)), h2 k (by omega)]
/-- a cell of the world: kind (class number, 0) is an object; (100 int, 101 byte, 102 boolean, 103 long, 104 the class's array of Matters, 105 int[][], length) an array -/
def cel (cT : Nat → ClassId) (z : Nat) (κ : Nat × Nat) (I : Nat → Int32) (L : Nat → Int64) (R : Nat → Option Nat) : va_E :=
  if κ.1 < 100 then .inr (κ.1, flds z I R (FK κ.1) 0)
  else if κ.1 < 103 then .inl (cT κ.1, κ.2, .inl I)
  else if κ.1 = 103 then .inl (cT κ.1, κ.2, .inr (.inl L))
  else .inl (cT κ.1, κ.2, .inr (.inr (.inr (.inr (fun j => zo z (R j))))))
def wl (cT : Nat → ClassId) (z n : Nat) (K : wKd) (I : wIn) (L : wLn) (R : wRf) : va_W := (List.range n).map (fun i => (z + i, cel cT z (K i) (I i) (L i) (R i)))
theorem wl_get {cT : Nat → ClassId} {z n i : Nat} {K : wKd} {I : wIn} {L : wLn} {R : wRf} (h : i < n) : (wl cT z n K I L R)[i]? = some (z + i, cel cT z (K i) (I i) (L i) (R i)) := by
  simp [wl, h]
theorem wl_len {cT : Nat → ClassId} {z n : Nat} {K : wKd} {I : wIn} {L : wLn} {R : wRf} : (wl cT z n K I L R).length = n := by simp [wl]
theorem wl_at {cT : Nat → ClassId} {z n k : Nat} {K : wKd} {I : wIn} {L : wLn} {R : wRf} {q : Nat × va_E} (h : (wl cT z n K I L R)[k]? = some q) : k < n ∧ q = (z + k, cel cT z (K k) (I k) (L k) (R k)) := by
  have hk : k < n := by
    have := (List.getElem?_eq_some_iff.mp h).1
    rwa [wl_len] at this
  rw [wl_get hk] at h
  exact ⟨hk, (Option.some.inj h).symm⟩
theorem wl_D {cT : Nat → ClassId} {z n : Nat} {K : wKd} {I : wIn} {L : wLn} {R : wRf} : va_D (fun q => z ≤ q) (wl cT z n K I L R) := by
  refine ⟨fun i j p q hi hj h => ?_, fun k q hk => ?_⟩
  · obtain ⟨-, rfl⟩ := wl_at hi
    obtain ⟨-, rfl⟩ := wl_at hj
    have h : z + i = z + j := h
    omega
  · obtain ⟨-, rfl⟩ := wl_at hk
    exact Nat.le_add_right z k
theorem wl_set {cT : Nat → ClassId} {z n i : Nat} {K K' : wKd} {I I' : wIn} {L L' : wLn} {R R' : wRf} {x : va_E} (hx : cel cT z (K' i) (I' i) (L' i) (R' i) = x) (ho : ∀ j, j ≠ i → K' j = K j ∧ I' j = I j ∧ L' j = L j ∧ R' j = R j) : (wl cT z n K I L R).set i (z + i, x) = wl cT z n K' I' L' R' := by
  apply List.ext_getElem?
  intro k
  rw [List.getElem?_set]
  by_cases hk : k < n
  · by_cases e : i = k
    · subst e
      rw [if_pos rfl, wl_len, if_pos hk, wl_get hk, hx]
    · rw [if_neg e, wl_get hk, wl_get hk]
      obtain ⟨h1, h2, h3, h4⟩ := ho k (Ne.symm e)
      rw [h1, h2, h3, h4]
  · have h1 : (wl cT z n K' I' L' R')[k]? = none := by simp [wl_len]; omega
    have h2 : (wl cT z n K I L R)[k]? = none := by simp [wl_len]; omega
    rw [h1, h2]
    by_cases e : i = k
    · subst e
      simp [wl_len, hk]
    · simp [e]
theorem wl_push {cT : Nat → ClassId} {z n : Nat} {K K' : wKd} {I I' : wIn} {L L' : wLn} {R R' : wRf} (ho : ∀ j, j < n → K' j = K j ∧ I' j = I j ∧ L' j = L j ∧ R' j = R j) : wl cT z (n + 1) K' I' L' R' = wl cT z n K I L R ++ [(z + n, cel cT z (K' n) (I' n) (L' n) (R' n))] := by
  unfold wl
  rw [List.range_succ, List.map_append]
  congr 1
  apply List.map_congr_left
  intro a ha
  obtain ⟨h1, h2, h3, h4⟩ := ho a (List.mem_range.mp ha)
  rw [h1, h2, h3, h4]
def tysOf (cT : Nat → ClassId) : List (ClassId × FieldType) := [(cT 100, .int), (cT 101, .byte), (cT 102, .boolean), (cT 103, .long), (cT 104, .object RX2), (cT 105, .array .int)]
/-- the heap holds the world -/
def HW (D : va_G) (cT : Nat → ClassId) (z n : Nat) (K : wKd) (I : wIn) (L : wLn) (R : wRf) (H : Heap) : Prop := H.size = z + n ∧ (∀ i, n ≤ i → K i = (999, 0)) ∧ va_P D vwCl (wl cT z n K I L R) H
theorem HW.lt {D : va_G} {cT : Nat → ClassId} {z n : Nat} {K : wKd} {I : wIn} {L : wLn} {R : wRf} {H : Heap} (h : HW D cT z n K I L R H) {i : Nat} {κ : Nat × Nat} (hk : K i = κ) (hn : κ.1 ≠ 999) : i < n := by
  rcases Nat.lt_or_ge i n with q | q
  · exact q
  · rw [h.2.1 i q] at hk
    subst hk
    exact absurd rfl hn
/-- what the tables say of the world's classes -/
def KX (D : va_G) (cT : Nat → ClassId) (U : State) : Prop := va_K D vwCl (tysOf cT) U ∧ (∀ w ∈ lw_tbl, isNest w = true → va_Nw w U) ∧ AOt (.object RX2) U ∧ AOt (.array .int) U
theorem KX.warm {D : va_G} {cT : Nat → ClassId} {s U : State} (hW : s.WarmedH U.vm) (h : KX D cT s) : KX D cT U := ⟨va_K.moved hW.alike h.1, fun w hw hn => by
  cases w <;> first | exact va_Nw.warmM hW (h.2.1 _ hw hn) | (simp [isNest] at hn), h.2.2.1.movedO hW.alike, h.2.2.2.movedA hW.alike⟩
/-- all that stays the same while a method runs -/
abbrev Gm : Type := Program × Launch × Env × Room × State × MethodId × Array Value × List Frame × Method × Code × va_G × (Nat → ClassId) × Nat
abbrev gp (Γ : Gm) : Program := Γ.1
abbrev gl (Γ : Gm) : Launch := Γ.2.1
abbrev ge (Γ : Gm) : Env := Γ.2.2.1
abbrev gR (Γ : Gm) : Room := Γ.2.2.2.1
abbrev gs (Γ : Gm) : State := Γ.2.2.2.2.1
abbrev gm (Γ : Gm) : MethodId := Γ.2.2.2.2.2.1
abbrev ga (Γ : Gm) : Array Value := Γ.2.2.2.2.2.2.1
abbrev gb (Γ : Gm) : List Frame := Γ.2.2.2.2.2.2.2.1
abbrev gme (Γ : Gm) : Method := Γ.2.2.2.2.2.2.2.2.1
abbrev gc (Γ : Gm) : Code := Γ.2.2.2.2.2.2.2.2.2.1
abbrev gD (Γ : Gm) : va_G := Γ.2.2.2.2.2.2.2.2.2.2.1
abbrev gT (Γ : Gm) : Nat → ClassId := Γ.2.2.2.2.2.2.2.2.2.2.2.1
abbrev gz (Γ : Gm) : Nat := Γ.2.2.2.2.2.2.2.2.2.2.2.2
/-- the method's own facts: its class, code, locals, answer, room -/
def Cx (Γ : Gm) (own : String) (cc : ByteArray) (nL : Nat) (ret : Option FieldType) (rm : Room) (nm : String) : Prop :=
  (gp Γ).tables.exec = Jvm.exec ∧ (gc Γ).code = cc ∧ (gme Γ).sig.returnType = ret ∧ (gc Γ).maxLocals = nL ∧ (gs Γ).vm.findClass own = some (gm Γ).cls ∧ (∀ w ∈ tg, w.before (ga Γ) (gs Γ) = true) ∧ (gme Γ).locks = false ∧ KX (gD Γ) (gT Γ) (gs Γ) ∧ gR Γ = rm ∧ (gme Γ).name = nm ∧ gz Γ ≤ (gs Γ).heap.size
/-- locals by their places -/
def lps (z : Nat) : Nat → List (Option Value) → List (Nat × Value)
  | _, [] => []
  | k, none :: l => lps z (k + 1) l
  | k, some v :: l => (k, cv z v) :: lps z (k + 1) l
theorem lps_mem (z : Nat) : ∀ (l : List (Option Value)) (k : Nat) (q : Nat × Value), q ∈ lps z k l ↔ ∃ (j : Nat) (v : Value), l[j]? = some (some v) ∧ q = (k + j, cv z v)
  | [], k, q => by simp [lps]
  | none :: l, k, q => by
    simp only [lps]
    rw [lps_mem z l (k + 1) q]
    constructor
    · rintro ⟨j, v, h1, h2⟩
      exact ⟨j + 1, v, by simpa using h1, by rw [h2, Nat.add_assoc, Nat.add_comm 1 j]⟩
    · rintro ⟨j, v, h1, h2⟩
      cases j with
      | zero => simp at h1
      | succ j => exact ⟨j, v, by simpa using h1, by rw [h2, Nat.add_assoc, Nat.add_comm 1 j]⟩
  | some w :: l, k, q => by
    simp only [lps, List.mem_cons]
    rw [lps_mem z l (k + 1) q]
    constructor
    · rintro (h | ⟨j, v, h1, h2⟩)
      · exact ⟨0, w, by simp, by simpa using h⟩
      · exact ⟨j + 1, v, by simpa using h1, by rw [h2, Nat.add_assoc, Nat.add_comm 1 j]⟩
    · rintro ⟨j, v, h1, h2⟩
      cases j with
      | zero =>
        simp at h1
        subst h1
        exact Or.inl (by simpa using h2)
      | succ j => exact Or.inr ⟨j, v, by simpa using h1, by rw [h2, Nat.add_assoc, Nat.add_comm 1 j]⟩
def lh (z : Nat) (ls : Array Slot) (nL : Nat) (lo : List (Option Value)) : Prop := lv_has ls nL (lps z 0 lo)
theorem lh.get {z : Nat} {ls : Array Slot} {nL : Nat} {lo : List (Option Value)} (h : lh z ls nL lo) {k : Nat} {v : Value} (hk : lo[k]? = some (some v)) : ls[k]? = some (.val (cv z v)) := by
  have := h.2.2 (k, cv z v) ((lps_mem z lo 0 _).mpr ⟨k, v, hk, by simp⟩)
  exact this
theorem lh.less {z : Nat} {ls : Array Slot} {nL : Nat} {lo lo' : List (Option Value)} (h : lh z ls nL lo) (hs : ∀ (j : Nat) (v : Value), lo'[j]? = some (some v) → lo[j]? = some (some v)) : lh z ls nL lo' := ⟨h.1, h.2.1, fun q hq => by
  obtain ⟨j, v, h1, rfl⟩ := (lps_mem z lo' 0 q).mp hq
  exact h.2.2 _ ((lps_mem z lo 0 _).mpr ⟨j, v, hs j v h1, rfl⟩)⟩
def noL (lo : List (Option Value)) : Bool := lo.all (fun o => match o with
  | some (.long _) => false
  | some (.double _) => false
  | _ => true)
theorem noL_at {lo : List (Option Value)} (h : noL lo = true) {j : Nat} {v : Value} (hj : lo[j]? = some (some v)) : v.category ≠ 2 := by
  have := List.all_eq_true.mp h (some v) (List.mem_of_getElem? hj)
  cases v <;> simp_all [Value.category]
theorem lh.sto {z : Nat} {ls ls' : Array Slot} {nL i : Nat} {lo : List (Option Value)} {v : Value} (hn : noL lo = true) (h : lv_has ls' nL ((i, cv z v) :: (lps z 0 lo).filter (fun q => !(q.1 == i) && !(q.1 + 1 == i && q.2.category == 2)))) : lh z ls' nL (lo.set i (some v)) := by
  refine ⟨h.1, h.2.1, fun q hq => ?_⟩
  obtain ⟨j, w, h1, rfl⟩ := (lps_mem z _ 0 q).mp hq
  apply h.2.2
  rw [List.getElem?_set] at h1
  by_cases e : i = j
  · subst e
    rw [if_pos rfl] at h1
    split at h1
    · simp at h1
      subst h1
      simp
    · simp at h1
  · rw [if_neg e] at h1
    refine List.mem_cons_of_mem _ (List.mem_filter.mpr ⟨(lps_mem z lo 0 _).mpr ⟨j, w, h1, rfl⟩, ?_⟩)
    have := noL_at hn h1
    simp [cv_cat, this]
    omega
theorem lh.stoL {z : Nat} {ls ls' : Array Slot} {nL i : Nat} {lo : List (Option Value)} {v : Value} (hn : noL lo = true) (h : lv_has ls' nL ((i, cv z v) :: (lps z 0 lo).filter (fun q => !(q.1 == i) && (!(q.1 == i + 1) && !(q.1 + 1 == i && q.2.category == 2))))) : lh z ls' nL ((lo.set i (some v)).set (i + 1) none) := by
  refine ⟨h.1, h.2.1, fun q hq => ?_⟩
  obtain ⟨j, w, h1, rfl⟩ := (lps_mem z _ 0 q).mp hq
  apply h.2.2
  rw [List.getElem?_set] at h1
  by_cases e2 : i + 1 = j
  · rw [if_pos e2] at h1
    split at h1 <;> simp at h1
  rw [if_neg e2, List.getElem?_set] at h1
  by_cases e : i = j
  · subst e
    rw [if_pos rfl] at h1
    split at h1
    · simp at h1
      subst h1
      simp
    · simp at h1
  · rw [if_neg e] at h1
    refine List.mem_cons_of_mem _ (List.mem_filter.mpr ⟨(lps_mem z lo 0 _).mpr ⟨j, w, h1, rfl⟩, ?_⟩)
    have := noL_at hn h1
    simp [cv_cat, this]
    omega
/-- at pc, with these locals, this stack, this world: the machine comes to a state with Q -/
def wp (Γ : Gm) (cells slots : Nat) (Q : State → Prop) (pc : Nat) (lo : List (Option Value)) (st : List Value) (n : Nat) (K : wKd) (I : wIn) (L : wLn) (R : wRf) : Prop :=
  ∀ (H : Heap) (locs : List Loc) (ls : Array Slot), HW (gD Γ) (gT Γ) (gz Γ) n K I L R H → va_S (fun q => gz Γ ≤ q) (gs Γ).heap H locs → lh (gz Γ) ls (gc Γ).maxLocals lo → W (gp Γ) (gl Γ) (ge Γ) (gR Γ) (gs Γ) (gm Γ) (ga Γ) (gb Γ) (gme Γ) (gc Γ) H locs cells slots Q (F0 (gm Γ) pc ls (st.map (cv (gz Γ))))
