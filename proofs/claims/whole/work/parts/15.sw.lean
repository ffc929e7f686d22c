section SW
variable {Γ : Gm} {own : String} {cc : ByteArray} {nL : Nat} {ret : Option FieldType} {rm : Room} {nm : String} {cells slots pc pc2 : Nat} {Q : State → Prop} {lo : List (Option Value)} {st : List Value} {n : Nat} {K : wKd} {I : wIn} {J : wJn} {L : wLn} {R : wRf}
theorem z_look01 (C : Cx Γ own cc nL ret rm nm) {x dflt o0 o1 : Int} {len t0 t1 td : Nat} (hd : decode cc pc = .ok (.lookupswitch dflt #[(0, o0), (1, o1)], len)) (h0 : (pc : Int) + o0 = (t0 : Int)) (h1 : (pc : Int) + o1 = (t1 : Int)) (h2 : (pc : Int) + dflt = (td : Int)) (hx : R32 x) (k0 : x = 0 → wp Γ cells slots Q t0 lo st n K I L R) (k1 : x = 1 → wp Γ cells slots Q t1 lo st n K I L R) (k2 : ¬ x = 0 ∧ ¬ x = 1 → wp Γ cells slots Q td lo st n K I L R) : wp Γ cells slots Q pc lo (.int (iI x) :: st) n K I L R := by
  have e := iI_toInt hx.1 hx.2
  by_cases q0 : x = 0
  · exact w_lookup C hd (by simp) (off := o0) (by rw [e, q0]; simp [Op.lookupswitch.offset]) h0 (k0 q0)
  · by_cases q1 : x = 1
    · exact w_lookup C hd (by simp) (off := o1) (by rw [e, q1]; simp [Op.lookupswitch.offset]) h1 (k1 q1)
    · exact w_lookup C hd (by simp) (off := dflt) (by rw [e]; simp [Op.lookupswitch.offset, q0, q1, Ne.symm q0, Ne.symm q1]) h2 (k2 ⟨q0, q1⟩)
theorem z_tab3 (C : Cx Γ own cc nL ret rm nm) {x dflt o0 o1 o2 : Int} {len t0 t1 t2 td : Nat} (hd : decode cc pc = .ok (.tableswitch dflt 0 2 #[o0, o1, o2], len)) (h0 : (pc : Int) + o0 = (t0 : Int)) (h1 : (pc : Int) + o1 = (t1 : Int)) (h2 : (pc : Int) + o2 = (t2 : Int)) (h3 : (pc : Int) + dflt = (td : Int)) (hx : R32 x) (k0 : x = 0 → wp Γ cells slots Q t0 lo st n K I L R) (k1 : x = 1 → wp Γ cells slots Q t1 lo st n K I L R) (k2 : x = 2 → wp Γ cells slots Q t2 lo st n K I L R) (k3 : x < 0 ∨ 2 < x → wp Γ cells slots Q td lo st n K I L R) : wp Γ cells slots Q pc lo (.int (iI x) :: st) n K I L R := by
  have e := iI_toInt hx.1 hx.2
  by_cases q : x < 0 ∨ 2 < x
  · exact w_tableOut C hd (by rw [e]; exact q) h3 (k3 q)
  · have q3 : x = 0 ∨ x = 1 ∨ x = 2 := by omega
    rcases q3 with q3 | q3 | q3
    · exact w_tableIn C hd (by rw [e]; omega) (by rw [e]; omega) (off := o0) (by rw [e, q3]; rfl) h0 (k0 q3)
    · exact w_tableIn C hd (by rw [e]; omega) (by rw [e]; omega) (off := o1) (by rw [e, q3]; rfl) h1 (k1 q3)
    · exact w_tableIn C hd (by rw [e]; omega) (by rw [e]; omega) (off := o2) (by rw [e, q3]; rfl) h2 (k2 q3)
theorem lg_cmp_lt0 (x y : Int64) : lg_cmp x y = iI (if y < x then 1 else if x = y then 0 else -1) := by
  unfold lg_cmp
  by_cases h : y < x
  · simp [h, iI_1]
  · by_cases h2 : x = y
    · simp [h2, iI_0]
    · simp [h, h2, iI_m1]
end SW
