/-! ===== where things lie: cells 0 .. 33 the class, 34 .. 47 the reference ===== -/
def KL : List (Nat × Nat) := [(10, 0), (7, 0), (101, 1000), (4, 0), (5, 0), (100, 100), (100, 100), (100, 4), (100, 4), (100, 4), (100, 4), (2, 0), (5, 0), (100, 100), (100, 100), (8, 0), (100, 24), (100, 100), (1, 0), (100, 100), (100, 100), (0, 0), (103, 24), (104, 2), (6, 0), (100, 100), (100, 2), (100, 10201), (3, 0), (105, 2), (100, 100), (100, 100), (9, 0), (100, 2063),
  (11, 0), (100, 6888), (103, 72), (102, 2), (100, 1000), (100, 200), (100, 200), (100, 1001), (100, 4), (100, 4), (100, 4), (100, 1030301), (100, 100), (100, 2)]
def RL2 : List (List (Option Nat)) := [[some 1, some 3, some 11, some 23, some 24, some 28, some 32], [some 2], [], [some 4, none, none, some 1, some 7, some 8, some 9, some 10], [some 5, some 6], [], [], [], [], [], [], [some 12, some 15, some 18, some 21], [some 13, some 14], [], [], [some 16, none, some 17], [], [], [some 19, some 20], [], [], [some 22], [], [], [some 25, some 26, none, none, some 12, some 27], [], [], [], [some 12, some 29], [some 30, some 31], [], [], [none, none, some 33], [],
  [some 35, some 36, some 37, some 38, none, none, none, none, none, none, none, none, some 39, some 40, some 41, none, none, some 42, some 43, some 44, some 45, some 46, some 47]]
def KT (i : Nat) : Nat × Nat := KL.getD i (999, 0)
def RT (i k : Nat) : Option Nat := (RL2.getD i []).getD k none
def Ly (K : wKd) (R : wRf) : Prop := (∀ i, i < 48 → K i = KT i) ∧ ∀ i, i < 48 ∧ i ≠ 23 → ∀ k, R i k = RT i k
theorem Ly.k {K : wKd} {R : wRf} (h : Ly K R) (i : Nat) (hi : i < 48 := by decide) : K i = KT i := h.1 i hi
theorem Ly.r {K : wKd} {R : wRf} (h : Ly K R) (i k : Nat) (hi : i < 48 ∧ i ≠ 23 := by decide) : R i k = RT i k := h.2 i hi k
/-- a told answer, the world of numbers new, all else as it was -/
abbrev DI (r : Option Value) (n : Nat) (K : wKd) (I : wIn) (L : wLn) (R : wRf) : Post := Det r n K I L R
theorem DetI {r r2 : Option Value} {n : Nat} {K : wKd} {I I2 : wIn} {L : wLn} {R : wRf} (h1 : r = r2) (h2 : I = I2) : Det r2 n K I2 L R r n K I L R := ⟨h1, rfl, rfl, h2, rfl, rfl⟩
