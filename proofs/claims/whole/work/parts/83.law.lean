/-! ===== the law's own rows ===== -/
def ScA (Γ : Gm) (b Ls : Nat) (xs : Nat → Int32) : Prop := va_X b Ls xs (gs Γ) (gs Γ).heap ∧ b < (gs Γ).heap.size ∧ gz Γ = (gs Γ).heap.size ∧ Ls ≤ 3072
abbrev C_L (Γ : Gm) : Prop := Cx Γ RL cL_law 4 (some .boolean) room_1 (gme Γ).name
section LAWR
variable {Γ : Gm} {own : String} {cc : ByteArray} {nL : Nat} {ret : Option FieldType} {rm : Room} {nm : String} {cells slots pc pc2 : Nat} {Q : State → Prop} {lo : List (Option Value)} {st : List Value} {n : Nat} {K : wKd} {I : wIn} {L : wLn} {R : wRf} {b Ls : Nat} {xs : Nat → Int32}
theorem w_sld (C : Cx Γ own cc nL ret rm nm) (hSc : ScA Γ b Ls xs) {j : Nat} {a : Int} (hd : decode cc pc = .ok (.iaload, 1)) (hx : a = j) (hj : j < Ls) (hp : pc + 1 = pc2) (kk : wp Γ cells slots Q pc2 lo (.int (xs j) :: st) n K I L R) : wp Γ cells slots Q pc lo (.int (iI a) :: .retAddr b :: st) n K I L R := by
  obtain ⟨h1, h2, h3, h4⟩ := hSc
  subst hp; subst hx; intro H locs ls hW hS hl
  have e : (nI j).toNatClampNeg = j := nI_clamp (by omega)
  refine va_sld (i := nI j) C.1 C.2.1 h1 h2 (by show ¬ gz Γ ≤ b; omega) hS (vp_in_nI hj (by omega)) hd ?_
  rw [e]
  exact kk H locs ls hW hS hl
theorem w_slen (C : Cx Γ own cc nL ret rm nm) (hSc : ScA Γ b Ls xs) (hd : decode cc pc = .ok (.arraylength, 1)) (hp : pc + 1 = pc2) (kk : wp Γ cells slots Q pc2 lo (.int (iI (Ls : Int)) :: st) n K I L R) : wp Γ cells slots Q pc lo (.retAddr b :: st) n K I L R := by
  obtain ⟨h1, h2, h3, h4⟩ := hSc
  subst hp; intro H locs ls hW hS hl
  exact va_slen C.1 C.2.1 h1 h2 (by show ¬ gz Γ ≤ b; omega) hS hd (kk H locs ls hW hS hl)
end LAWR
/-- on to the next call -/
def Nx (Γ : Gm) (Q : State → Prop) (b i cells slots : Nat) : Prop := ∀ (n : Nat) (K : wKd) (J : wJn) (L : wLn) (R : wRf), Inv n K J L R → wp Γ (cells + 12) (slots + 569) Q 762 [some (.retAddr b), some (.ref 0), some (.ref 34), some (.int (iI (i : Int)))] [] n K (zw J) L R
theorem Nx.lo {Γ : Gm} {Q : State → Prop} {b i cells slots : Nat} (h : Nx Γ Q b i cells slots) {n : Nat} {K : wKd} {J : wJn} {L : wLn} {R : wRf} (hI : Inv n K J L R) : wp Γ cells slots Q 762 [some (.retAddr b), some (.ref 0), some (.ref 34), some (.int (iI (i : Int)))] [] n K (zw J) L R := w_widen (by omega) (by omega) (h n K J L R hI)
theorem lcm0 {x y : Int64} (h : x = y) : lg_cmp x y = 0 := by
  subst h
  rw [lg_cmp_lt0, if_neg Int64.lt_irrefl, if_pos rfl]; rfl
