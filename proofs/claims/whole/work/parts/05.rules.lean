section RULES
variable {Γ : Gm} {own : String} {cc : ByteArray} {nL : Nat} {ret : Option FieldType} {rm : Room} {nm : String} {cells slots pc pc2 : Nat} {Q : State → Prop} {lo : List (Option Value)} {st : List Value} {n : Nat} {K : wKd} {I : wIn} {L : wLn} {R : wRf}
theorem w_iadd (C : Cx Γ own cc nL ret rm nm) {x y : Int32} (hd : decode cc pc = .ok (.iadd, 1))  (hp : pc + 1 = pc2) (k : wp Γ cells slots Q pc2 lo (.int (x + y) :: st) n K I L R) : wp Γ cells slots Q pc lo (.int y :: .int x :: st) n K I L R := by
  subst hp; intro H locs ls hW hS hl
  exact lv_iadd C.1 C.2.1 hd (k H locs ls hW hS hl)
theorem w_isub (C : Cx Γ own cc nL ret rm nm) {x y : Int32} (hd : decode cc pc = .ok (.isub, 1))  (hp : pc + 1 = pc2) (k : wp Γ cells slots Q pc2 lo (.int (x - y) :: st) n K I L R) : wp Γ cells slots Q pc lo (.int y :: .int x :: st) n K I L R := by
  subst hp; intro H locs ls hW hS hl
  exact lv_isub C.1 C.2.1 hd (k H locs ls hW hS hl)
theorem w_imul (C : Cx Γ own cc nL ret rm nm) {x y : Int32} (hd : decode cc pc = .ok (.imul, 1))  (hp : pc + 1 = pc2) (k : wp Γ cells slots Q pc2 lo (.int (x * y) :: st) n K I L R) : wp Γ cells slots Q pc lo (.int y :: .int x :: st) n K I L R := by
  subst hp; intro H locs ls hW hS hl
  exact lv_imul C.1 C.2.1 hd (k H locs ls hW hS hl)
theorem w_iand (C : Cx Γ own cc nL ret rm nm) {x y : Int32} (hd : decode cc pc = .ok (.iand, 1))  (hp : pc + 1 = pc2) (k : wp Γ cells slots Q pc2 lo (.int (x &&& y) :: st) n K I L R) : wp Γ cells slots Q pc lo (.int y :: .int x :: st) n K I L R := by
  subst hp; intro H locs ls hW hS hl
  exact lv_iand C.1 C.2.1 hd (k H locs ls hW hS hl)
theorem w_ior (C : Cx Γ own cc nL ret rm nm) {x y : Int32} (hd : decode cc pc = .ok (.ior, 1))  (hp : pc + 1 = pc2) (k : wp Γ cells slots Q pc2 lo (.int (x ||| y) :: st) n K I L R) : wp Γ cells slots Q pc lo (.int y :: .int x :: st) n K I L R := by
  subst hp; intro H locs ls hW hS hl
  exact lv_ior C.1 C.2.1 hd (k H locs ls hW hS hl)
theorem w_ishl (C : Cx Γ own cc nL ret rm nm) {x y : Int32} (hd : decode cc pc = .ok (.ishl, 1))  (hp : pc + 1 = pc2) (k : wp Γ cells slots Q pc2 lo (.int (x <<< (y &&& 31)) :: st) n K I L R) : wp Γ cells slots Q pc lo (.int y :: .int x :: st) n K I L R := by
  subst hp; intro H locs ls hW hS hl
  exact lv_ishl C.1 C.2.1 hd (k H locs ls hW hS hl)
theorem w_ishr (C : Cx Γ own cc nL ret rm nm) {x y : Int32} (hd : decode cc pc = .ok (.ishr, 1))  (hp : pc + 1 = pc2) (k : wp Γ cells slots Q pc2 lo (.int (x >>> (y &&& 31)) :: st) n K I L R) : wp Γ cells slots Q pc lo (.int y :: .int x :: st) n K I L R := by
  subst hp; intro H locs ls hW hS hl
  exact lv_ishr C.1 C.2.1 hd (k H locs ls hW hS hl)
theorem w_idiv (C : Cx Γ own cc nL ret rm nm) {x y : Int32} (hd : decode cc pc = .ok (.idiv, 1)) (hne : ¬ y = 0) (hp : pc + 1 = pc2) (k : wp Γ cells slots Q pc2 lo (.int (x / y) :: st) n K I L R) : wp Γ cells slots Q pc lo (.int y :: .int x :: st) n K I L R := by
  subst hp; intro H locs ls hW hS hl
  exact lv_idiv C.1 C.2.1 hd hne (k H locs ls hW hS hl)
theorem w_irem (C : Cx Γ own cc nL ret rm nm) {x y : Int32} (hd : decode cc pc = .ok (.irem, 1)) (hne : ¬ y = 0) (hp : pc + 1 = pc2) (k : wp Γ cells slots Q pc2 lo (.int (x - x / y * y) :: st) n K I L R) : wp Γ cells slots Q pc lo (.int y :: .int x :: st) n K I L R := by
  subst hp; intro H locs ls hW hS hl
  exact lv_irem C.1 C.2.1 hd hne (k H locs ls hW hS hl)
theorem w_ineg (C : Cx Γ own cc nL ret rm nm) {x : Int32} (hd : decode cc pc = .ok (.ineg, 1))  (hp : pc + 1 = pc2) (k : wp Γ cells slots Q pc2 lo (.int (-x) :: st) n K I L R) : wp Γ cells slots Q pc lo (.int x :: st) n K I L R := by
  subst hp; intro H locs ls hW hS hl
  exact lv_ineg C.1 C.2.1 hd (k H locs ls hW hS hl)
theorem w_iushr (C : Cx Γ own cc nL ret rm nm) {x y : Int32} (hd : decode cc pc = .ok (.iushr, 1))  (hp : pc + 1 = pc2) (k : wp Γ cells slots Q pc2 lo (.int ((x.toUInt32 >>> (y.toUInt32 &&& Int32.toUInt32 31)).toInt32) :: st) n K I L R) : wp Γ cells slots Q pc lo (.int y :: .int x :: st) n K I L R := by
  subst hp; intro H locs ls hW hS hl
  exact lv_iushr C.1 C.2.1 hd rfl (k H locs ls hW hS hl)
theorem w_ladd (C : Cx Γ own cc nL ret rm nm) {x y : Int64} (hd : decode cc pc = .ok (.ladd, 1))  (hp : pc + 1 = pc2) (k : wp Γ cells slots Q pc2 lo (.long (x + y) :: st) n K I L R) : wp Γ cells slots Q pc lo (.long y :: .long x :: st) n K I L R := by
  subst hp; intro H locs ls hW hS hl
  exact lv_ladd C.1 C.2.1 hd (k H locs ls hW hS hl)
theorem w_lcmp (C : Cx Γ own cc nL ret rm nm) {x y : Int64} (hd : decode cc pc = .ok (.lcmp, 1))  (hp : pc + 1 = pc2) (k : wp Γ cells slots Q pc2 lo (.int (lg_cmp x y) :: st) n K I L R) : wp Γ cells slots Q pc lo (.long y :: .long x :: st) n K I L R := by
  subst hp; intro H locs ls hW hS hl
  exact W.lcmp C.1 C.2.1 hd (k H locs ls hW hS hl)
theorem w_i2l (C : Cx Γ own cc nL ret rm nm) {x : Int32} (hd : decode cc pc = .ok (.i2l, 1))  (hp : pc + 1 = pc2) (k : wp Γ cells slots Q pc2 lo (.long x.toInt64 :: st) n K I L R) : wp Γ cells slots Q pc lo (.int x :: st) n K I L R := by
  subst hp; intro H locs ls hW hS hl
  exact lv_i2l C.1 C.2.1 hd rfl (k H locs ls hW hS hl)
theorem w_i2b (C : Cx Γ own cc nL ret rm nm) {x : Int32} (hd : decode cc pc = .ok (.i2b, 1))  (hp : pc + 1 = pc2) (k : wp Γ cells slots Q pc2 lo (.int x.toInt8.toInt32 :: st) n K I L R) : wp Γ cells slots Q pc lo (.int x :: st) n K I L R := by
  subst hp; intro H locs ls hW hS hl
  exact lv_i2b C.1 C.2.1 hd rfl (k H locs ls hW hS hl)
theorem w_iconst (C : Cx Γ own cc nL ret rm nm) {i : Int} {v : Int32} (hd : decode cc pc = .ok (.iconst i, 1)) (hv : Int32.ofInt i = v) (hp : pc + 1 = pc2) (k : wp Γ cells slots Q pc2 lo (.int v :: st) n K I L R) : wp Γ cells slots Q pc lo (st) n K I L R := by
  subst hp; intro H locs ls hW hS hl
  exact lv_iconst C.1 C.2.1 hd hv (k H locs ls hW hS hl)
theorem w_lconst (C : Cx Γ own cc nL ret rm nm) {i : Fin 2} {v : Int64} (hd : decode cc pc = .ok (.lconst i, 1)) (hv : Int64.ofNat (i : Nat) = v) (hp : pc + 1 = pc2) (k : wp Γ cells slots Q pc2 lo (.long v :: st) n K I L R) : wp Γ cells slots Q pc lo (st) n K I L R := by
  subst hp; intro H locs ls hW hS hl
  exact lv_lconst C.1 C.2.1 hd hv (k H locs ls hW hS hl)
theorem w_bipush (C : Cx Γ own cc nL ret rm nm) {i : Int} {v : Int32} (hd : decode cc pc = .ok (.bipush i, 2)) (hv : (Int8.ofInt i).toInt32 = v) (hp : pc + 2 = pc2) (k : wp Γ cells slots Q pc2 lo (.int v :: st) n K I L R) : wp Γ cells slots Q pc lo (st) n K I L R := by
  subst hp; intro H locs ls hW hS hl
  exact lv_bipush C.1 C.2.1 hd hv (k H locs ls hW hS hl)
theorem w_sipush (C : Cx Γ own cc nL ret rm nm) {i : Int} {v : Int32} (hd : decode cc pc = .ok (.sipush i, 3)) (hv : (Int16.ofInt i).toInt32 = v) (hp : pc + 3 = pc2) (k : wp Γ cells slots Q pc2 lo (.int v :: st) n K I L R) : wp Γ cells slots Q pc lo (st) n K I L R := by
  subst hp; intro H locs ls hW hS hl
  exact lv_sipush C.1 C.2.1 hd hv (k H locs ls hW hS hl)
theorem w_ldc (C : Cx Γ own cc nL ret rm nm) {i : Nat} {v : Int32} (hd : decode cc pc = .ok (.ldc i, 2)) (hc : Cond.constant own i v ∈ tg) (hp : pc + 2 = pc2) (k : wp Γ cells slots Q pc2 lo (.int v :: st) n K I L R) : wp Γ cells slots Q pc lo (st) n K I L R := by
  subst hp; intro H locs ls hW hS hl
  exact lv_ldc C.1 C.2.1 C.2.2.2.2.1 (C.2.2.2.2.2.1 _ hc) hd (k H locs ls hW hS hl)
theorem w_ldc2 (C : Cx Γ own cc nL ret rm nm) {i : Nat} {v : Int64} (hd : decode cc pc = .ok (.ldc2_w i, 3)) (hc : Cond.constantLong own i v ∈ tg) (hp : pc + 3 = pc2) (k : wp Γ cells slots Q pc2 lo (.long v :: st) n K I L R) : wp Γ cells slots Q pc lo (st) n K I L R := by
  subst hp; intro H locs ls hW hS hl
  exact lv_ldc2 C.1 C.2.1 C.2.2.2.2.1 (C.2.2.2.2.2.1 _ hc) hd (k H locs ls hW hS hl)
theorem w_iload_n (C : Cx Γ own cc nL ret rm nm) {i : Fin 4} {x : Int32} (hd : decode cc pc = .ok (.iload_n i, 1)) (hv : lo[(i : Nat)]? = some (some (.int x))) (hp : pc + 1 = pc2) (k : wp Γ cells slots Q pc2 lo (.int x :: st) n K I L R) : wp Γ cells slots Q pc lo (st) n K I L R := by
  subst hp; intro H locs ls hW hS hl
  exact lv_iload_n C.1 C.2.1 hd rfl (hl.get hv) (k H locs ls hW hS hl)
theorem w_iload (C : Cx Γ own cc nL ret rm nm) {i : Nat} {x : Int32} (hd : decode cc pc = .ok (.iload i, 2)) (hv : lo[i]? = some (some (.int x))) (hp : pc + 2 = pc2) (k : wp Γ cells slots Q pc2 lo (.int x :: st) n K I L R) : wp Γ cells slots Q pc lo (st) n K I L R := by
  subst hp; intro H locs ls hW hS hl
  exact lv_iload C.1 C.2.1 hd (hl.get hv) (k H locs ls hW hS hl)
theorem w_lload_n (C : Cx Γ own cc nL ret rm nm) {i : Fin 4} {x : Int64} (hd : decode cc pc = .ok (.lload_n i, 1)) (hv : lo[(i : Nat)]? = some (some (.long x))) (hp : pc + 1 = pc2) (k : wp Γ cells slots Q pc2 lo (.long x :: st) n K I L R) : wp Γ cells slots Q pc lo (st) n K I L R := by
  subst hp; intro H locs ls hW hS hl
  exact lv_lload_n C.1 C.2.1 hd rfl (hl.get hv) (k H locs ls hW hS hl)
theorem w_aload_n (C : Cx Γ own cc nL ret rm nm) {i : Fin 4} {x : Nat} (hd : decode cc pc = .ok (.aload_n i, 1)) (hv : lo[(i : Nat)]? = some (some (.ref x))) (hp : pc + 1 = pc2) (k : wp Γ cells slots Q pc2 lo (.ref x :: st) n K I L R) : wp Γ cells slots Q pc lo (st) n K I L R := by
  subst hp; intro H locs ls hW hS hl
  exact lv_aload_n C.1 C.2.1 hd rfl (hl.get hv) (k H locs ls hW hS hl)
theorem w_aload_nx (C : Cx Γ own cc nL ret rm nm) {i : Fin 4} {x : Nat} (hd : decode cc pc = .ok (.aload_n i, 1)) (hv : lo[(i : Nat)]? = some (some (.retAddr x))) (hp : pc + 1 = pc2) (k : wp Γ cells slots Q pc2 lo (.retAddr x :: st) n K I L R) : wp Γ cells slots Q pc lo (st) n K I L R := by
  subst hp; intro H locs ls hW hS hl
  exact lv_aload_n C.1 C.2.1 hd rfl (hl.get hv) (k H locs ls hW hS hl)
theorem w_dup (C : Cx Γ own cc nL ret rm nm) {v : Value} (hd : decode cc pc = .ok (.dup, 1)) (hc : v.category = 1) (hp : pc + 1 = pc2) (k : wp Γ cells slots Q pc2 lo (v :: v :: st) n K I L R) : wp Γ cells slots Q pc lo (v :: st) n K I L R := by
  subst hp; intro H locs ls hW hS hl
  exact lv_dup C.1 C.2.1 hd ((cv_cat _ v).trans hc) (k H locs ls hW hS hl)
theorem w_dup2 (C : Cx Γ own cc nL ret rm nm) {v u : Value} (hd : decode cc pc = .ok (.dup2, 1)) (hc : v.category = 1) (hc2 : u.category = 1) (hp : pc + 1 = pc2) (k : wp Γ cells slots Q pc2 lo (v :: u :: v :: u :: st) n K I L R) : wp Γ cells slots Q pc lo (v :: u :: st) n K I L R := by
  subst hp; intro H locs ls hW hS hl
  exact lv_dup2_11 C.1 C.2.1 hd ((cv_cat _ v).trans hc) ((cv_cat _ u).trans hc2) (k H locs ls hW hS hl)
theorem w_pop (C : Cx Γ own cc nL ret rm nm) {v : Value} (hd : decode cc pc = .ok (.pop, 1)) (hc : v.category = 1) (hp : pc + 1 = pc2) (k : wp Γ cells slots Q pc2 lo (st) n K I L R) : wp Γ cells slots Q pc lo (v :: st) n K I L R := by
  subst hp; intro H locs ls hW hS hl
  exact lv_pop C.1 C.2.1 hd ((cv_cat _ v).trans hc) (k H locs ls hW hS hl)
theorem w_if_eq (C : Cx Γ own cc nL ret rm nm) {x : Int32} {off : Int} {tgt : Nat} (hd : decode cc pc = .ok (.ifCond .eq off, 3)) (ht : (pc : Int) + off = (tgt : Int)) (hp : pc + 3 = pc2) (kt : (x = 0) → wp Γ cells slots Q tgt lo st n K I L R) (kf : (¬ (x = 0)) → wp Γ cells slots Q pc2 lo st n K I L R) : wp Γ cells slots Q pc lo (.int x :: st) n K I L R := by
  subst hp; intro H locs ls hW hS hl
  exact lv_if_eq C.1 C.2.1 hd ht (fun c => kt c H locs ls hW hS hl) (fun c => kf c H locs ls hW hS hl)
theorem w_if_ne (C : Cx Γ own cc nL ret rm nm) {x : Int32} {off : Int} {tgt : Nat} (hd : decode cc pc = .ok (.ifCond .ne off, 3)) (ht : (pc : Int) + off = (tgt : Int)) (hp : pc + 3 = pc2) (kt : (¬ x = 0) → wp Γ cells slots Q tgt lo st n K I L R) (kf : (x = 0) → wp Γ cells slots Q pc2 lo st n K I L R) : wp Γ cells slots Q pc lo (.int x :: st) n K I L R := by
  subst hp; intro H locs ls hW hS hl
  exact lv_if_ne C.1 C.2.1 hd ht (fun c => kt c H locs ls hW hS hl) (fun c => kf c H locs ls hW hS hl)
theorem w_if_lt (C : Cx Γ own cc nL ret rm nm) {x : Int32} {off : Int} {tgt : Nat} (hd : decode cc pc = .ok (.ifCond .lt off, 3)) (ht : (pc : Int) + off = (tgt : Int)) (hp : pc + 3 = pc2) (kt : (x < 0) → wp Γ cells slots Q tgt lo st n K I L R) (kf : (¬ (x < 0)) → wp Γ cells slots Q pc2 lo st n K I L R) : wp Γ cells slots Q pc lo (.int x :: st) n K I L R := by
  subst hp; intro H locs ls hW hS hl
  exact lv_if_lt C.1 C.2.1 hd ht (fun c => kt c H locs ls hW hS hl) (fun c => kf c H locs ls hW hS hl)
theorem w_if_ge (C : Cx Γ own cc nL ret rm nm) {x : Int32} {off : Int} {tgt : Nat} (hd : decode cc pc = .ok (.ifCond .ge off, 3)) (ht : (pc : Int) + off = (tgt : Int)) (hp : pc + 3 = pc2) (kt : (0 ≤ x) → wp Γ cells slots Q tgt lo st n K I L R) (kf : (¬ (0 ≤ x)) → wp Γ cells slots Q pc2 lo st n K I L R) : wp Γ cells slots Q pc lo (.int x :: st) n K I L R := by
  subst hp; intro H locs ls hW hS hl
  exact lv_if_ge C.1 C.2.1 hd ht (fun c => kt c H locs ls hW hS hl) (fun c => kf c H locs ls hW hS hl)
theorem w_if_gt (C : Cx Γ own cc nL ret rm nm) {x : Int32} {off : Int} {tgt : Nat} (hd : decode cc pc = .ok (.ifCond .gt off, 3)) (ht : (pc : Int) + off = (tgt : Int)) (hp : pc + 3 = pc2) (kt : (0 < x) → wp Γ cells slots Q tgt lo st n K I L R) (kf : (¬ (0 < x)) → wp Γ cells slots Q pc2 lo st n K I L R) : wp Γ cells slots Q pc lo (.int x :: st) n K I L R := by
  subst hp; intro H locs ls hW hS hl
  exact lv_if_gt C.1 C.2.1 hd ht (fun c => kt c H locs ls hW hS hl) (fun c => kf c H locs ls hW hS hl)
theorem w_if_le (C : Cx Γ own cc nL ret rm nm) {x : Int32} {off : Int} {tgt : Nat} (hd : decode cc pc = .ok (.ifCond .le off, 3)) (ht : (pc : Int) + off = (tgt : Int)) (hp : pc + 3 = pc2) (kt : (x ≤ 0) → wp Γ cells slots Q tgt lo st n K I L R) (kf : (¬ (x ≤ 0)) → wp Γ cells slots Q pc2 lo st n K I L R) : wp Γ cells slots Q pc lo (.int x :: st) n K I L R := by
  subst hp; intro H locs ls hW hS hl
  exact lv_if_le C.1 C.2.1 hd ht (fun c => kt c H locs ls hW hS hl) (fun c => kf c H locs ls hW hS hl)
theorem w_icmp_eq (C : Cx Γ own cc nL ret rm nm) {x y : Int32} {off : Int} {tgt : Nat} (hd : decode cc pc = .ok (.if_icmp .eq off, 3)) (ht : (pc : Int) + off = (tgt : Int)) (hp : pc + 3 = pc2) (kt : (x = y) → wp Γ cells slots Q tgt lo st n K I L R) (kf : (¬ (x = y)) → wp Γ cells slots Q pc2 lo st n K I L R) : wp Γ cells slots Q pc lo (.int y :: .int x :: st) n K I L R := by
  subst hp; intro H locs ls hW hS hl
  exact lv_icmp_eq C.1 C.2.1 hd ht (fun c => kt c H locs ls hW hS hl) (fun c => kf c H locs ls hW hS hl)
theorem w_icmp_ne (C : Cx Γ own cc nL ret rm nm) {x y : Int32} {off : Int} {tgt : Nat} (hd : decode cc pc = .ok (.if_icmp .ne off, 3)) (ht : (pc : Int) + off = (tgt : Int)) (hp : pc + 3 = pc2) (kt : (¬ x = y) → wp Γ cells slots Q tgt lo st n K I L R) (kf : (x = y) → wp Γ cells slots Q pc2 lo st n K I L R) : wp Γ cells slots Q pc lo (.int y :: .int x :: st) n K I L R := by
  subst hp; intro H locs ls hW hS hl
  exact lv_icmp_ne C.1 C.2.1 hd ht (fun c => kt c H locs ls hW hS hl) (fun c => kf c H locs ls hW hS hl)
theorem w_icmp_lt (C : Cx Γ own cc nL ret rm nm) {x y : Int32} {off : Int} {tgt : Nat} (hd : decode cc pc = .ok (.if_icmp .lt off, 3)) (ht : (pc : Int) + off = (tgt : Int)) (hp : pc + 3 = pc2) (kt : (x < y) → wp Γ cells slots Q tgt lo st n K I L R) (kf : (¬ (x < y)) → wp Γ cells slots Q pc2 lo st n K I L R) : wp Γ cells slots Q pc lo (.int y :: .int x :: st) n K I L R := by
  subst hp; intro H locs ls hW hS hl
  exact lv_icmp_lt C.1 C.2.1 hd ht (fun c => kt c H locs ls hW hS hl) (fun c => kf c H locs ls hW hS hl)
theorem w_icmp_ge (C : Cx Γ own cc nL ret rm nm) {x y : Int32} {off : Int} {tgt : Nat} (hd : decode cc pc = .ok (.if_icmp .ge off, 3)) (ht : (pc : Int) + off = (tgt : Int)) (hp : pc + 3 = pc2) (kt : (y ≤ x) → wp Γ cells slots Q tgt lo st n K I L R) (kf : (¬ (y ≤ x)) → wp Γ cells slots Q pc2 lo st n K I L R) : wp Γ cells slots Q pc lo (.int y :: .int x :: st) n K I L R := by
  subst hp; intro H locs ls hW hS hl
  exact lv_icmp_ge C.1 C.2.1 hd ht (fun c => kt c H locs ls hW hS hl) (fun c => kf c H locs ls hW hS hl)
theorem w_icmp_gt (C : Cx Γ own cc nL ret rm nm) {x y : Int32} {off : Int} {tgt : Nat} (hd : decode cc pc = .ok (.if_icmp .gt off, 3)) (ht : (pc : Int) + off = (tgt : Int)) (hp : pc + 3 = pc2) (kt : (y < x) → wp Γ cells slots Q tgt lo st n K I L R) (kf : (¬ (y < x)) → wp Γ cells slots Q pc2 lo st n K I L R) : wp Γ cells slots Q pc lo (.int y :: .int x :: st) n K I L R := by
  subst hp; intro H locs ls hW hS hl
  exact lv_icmp_gt C.1 C.2.1 hd ht (fun c => kt c H locs ls hW hS hl) (fun c => kf c H locs ls hW hS hl)
theorem w_icmp_le (C : Cx Γ own cc nL ret rm nm) {x y : Int32} {off : Int} {tgt : Nat} (hd : decode cc pc = .ok (.if_icmp .le off, 3)) (ht : (pc : Int) + off = (tgt : Int)) (hp : pc + 3 = pc2) (kt : (x ≤ y) → wp Γ cells slots Q tgt lo st n K I L R) (kf : (¬ (x ≤ y)) → wp Γ cells slots Q pc2 lo st n K I L R) : wp Γ cells slots Q pc lo (.int y :: .int x :: st) n K I L R := by
  subst hp; intro H locs ls hW hS hl
  exact lv_icmp_le C.1 C.2.1 hd ht (fun c => kt c H locs ls hW hS hl) (fun c => kf c H locs ls hW hS hl)
theorem w_goto (C : Cx Γ own cc nL ret rm nm) {off : Int} {tgt : Nat} (hd : decode cc pc = .ok (.goto off, 3)) (ht : (pc : Int) + off = (tgt : Int)) (k : wp Γ cells slots Q tgt lo st n K I L R) : wp Γ cells slots Q pc lo st n K I L R := by
  intro H locs ls hW hS hl
  exact lv_goto C.1 C.2.1 hd ht (k H locs ls hW hS hl)
theorem w_ifnonnull (C : Cx Γ own cc nL ret rm nm) {x : Nat} {off : Int} {tgt : Nat} (hd : decode cc pc = .ok (.ifnonnull off, 3)) (ht : (pc : Int) + off = (tgt : Int)) (k : wp Γ cells slots Q tgt lo st n K I L R) : wp Γ cells slots Q pc lo (.ref x :: st) n K I L R := by
  intro H locs ls hW hS hl
  exact lv_ifnonnull C.1 C.2.1 hd ht (k H locs ls hW hS hl)
theorem w_ifnonnullN (C : Cx Γ own cc nL ret rm nm) {off : Int} (hd : decode cc pc = .ok (.ifnonnull off, 3)) (hp : pc + 3 = pc2) (k : wp Γ cells slots Q pc2 lo st n K I L R) : wp Γ cells slots Q pc lo (.null :: st) n K I L R := by
  subst hp; intro H locs ls hW hS hl
  exact lv_ifnonnullN C.1 C.2.1 hd (k H locs ls hW hS hl)
theorem w_tableIn (C : Cx Γ own cc nL ret rm nm) {dflt lo2 hi : Int} {offs : Array Int} {len : Nat} {x : Int32} {off : Int} {tgt : Nat} (hd : decode cc pc = .ok (.tableswitch dflt lo2 hi offs, len)) (h1 : ¬ x.toInt < lo2) (h2 : ¬ hi < x.toInt) (ho : offs[(x.toInt - lo2).toNat]? = some off) (ht : (pc : Int) + off = (tgt : Int)) (k : wp Γ cells slots Q tgt lo st n K I L R) : wp Γ cells slots Q pc lo (.int x :: st) n K I L R := by
  intro H locs ls hW hS hl
  exact lv_tableIn C.1 C.2.1 hd h1 h2 ho ht (k H locs ls hW hS hl)
theorem w_tableOut (C : Cx Γ own cc nL ret rm nm) {dflt lo2 hi : Int} {offs : Array Int} {len : Nat} {x : Int32} {tgt : Nat} (hd : decode cc pc = .ok (.tableswitch dflt lo2 hi offs, len)) (h : x.toInt < lo2 ∨ hi < x.toInt) (ht : (pc : Int) + dflt = (tgt : Int)) (k : wp Γ cells slots Q tgt lo st n K I L R) : wp Γ cells slots Q pc lo (.int x :: st) n K I L R := by
  intro H locs ls hW hS hl
  exact lv_tableOut C.1 C.2.1 hd h ht (k H locs ls hW hS hl)
theorem w_lookup (C : Cx Γ own cc nL ret rm nm) {dflt : Int} {ps : Array (Int × Int)} {len : Nat} {x : Int32} {off : Int} {tgt : Nat} (hd : decode cc pc = .ok (.lookupswitch dflt ps, len)) (h1 : (ps.toList.zip (ps.toList.drop 1)).all (fun (a, next) => a.1 < next.1) = true) (ho : Op.lookupswitch.offset ps.toList dflt x.toInt = off) (ht : (pc : Int) + off = (tgt : Int)) (k : wp Γ cells slots Q tgt lo st n K I L R) : wp Γ cells slots Q pc lo (.int x :: st) n K I L R := by
  intro H locs ls hW hS hl
  exact lv_lookup C.1 C.2.1 hd h1 ho ht (k H locs ls hW hS hl)
theorem w_istore_n (C : Cx Γ own cc nL ret rm nm) {i : Fin 4} {x : Int32} {lo2 : List (Option Value)} (hd : decode cc pc = .ok (.istore_n i, 1)) (hn : noL lo = true) (hi : (i : Nat) < nL) (hlo : lo.set (i : Nat) (some (.int x)) = lo2) (hp : pc + 1 = pc2) (k : wp Γ cells slots Q pc2 lo2 st n K I L R) : wp Γ cells slots Q pc lo (.int x :: st) n K I L R := by
  subst hp; subst hlo; intro H locs ls hW hS hl
  exact lv_istore_n C.1 C.2.1 hd rfl hl (by rw [C.2.2.2.1]; exact hi) rfl (fun ls2 h2 => k H locs ls2 hW hS (lh.sto (ls := ls) hn h2))
theorem w_istore (C : Cx Γ own cc nL ret rm nm) {i : Nat} {x : Int32} {lo2 : List (Option Value)} (hd : decode cc pc = .ok (.istore i, 2)) (hn : noL lo = true) (hi : i < nL) (hlo : lo.set i (some (.int x)) = lo2) (hp : pc + 2 = pc2) (k : wp Γ cells slots Q pc2 lo2 st n K I L R) : wp Γ cells slots Q pc lo (.int x :: st) n K I L R := by
  subst hp; subst hlo; intro H locs ls hW hS hl
  exact lv_istore C.1 C.2.1 hd hl (by rw [C.2.2.2.1]; exact hi) rfl (fun ls2 h2 => k H locs ls2 hW hS (lh.sto (ls := ls) hn h2))
theorem w_astore_n (C : Cx Γ own cc nL ret rm nm) {i : Fin 4} {x : Nat} {lo2 : List (Option Value)} (hd : decode cc pc = .ok (.astore_n i, 1)) (hn : noL lo = true) (hi : (i : Nat) < nL) (hlo : lo.set (i : Nat) (some (.ref x)) = lo2) (hp : pc + 1 = pc2) (k : wp Γ cells slots Q pc2 lo2 st n K I L R) : wp Γ cells slots Q pc lo (.ref x :: st) n K I L R := by
  subst hp; subst hlo; intro H locs ls hW hS hl
  exact lv_astore_n C.1 C.2.1 hd rfl hl (by rw [C.2.2.2.1]; exact hi) rfl (fun ls2 h2 => k H locs ls2 hW hS (lh.sto (ls := ls) hn h2))
theorem w_lstore_n (C : Cx Γ own cc nL ret rm nm) {i : Fin 4} {x : Int64} {lo2 : List (Option Value)} (hd : decode cc pc = .ok (.lstore_n i, 1)) (hn : noL lo = true) (hi : (i : Nat) + 1 < nL) (hlo : (lo.set (i : Nat) (some (.long x))).set ((i : Nat) + 1) none = lo2) (hp : pc + 1 = pc2) (k : wp Γ cells slots Q pc2 lo2 st n K I L R) : wp Γ cells slots Q pc lo (.long x :: st) n K I L R := by
  subst hp; subst hlo; intro H locs ls hW hS hl
  exact lv_lstore_n C.1 C.2.1 hd rfl hl (by rw [C.2.2.2.1]; exact hi) rfl (fun ls2 h2 => k H locs ls2 hW hS (lh.stoL (ls := ls) hn h2))
theorem w_iinc (C : Cx Γ own cc nL ret rm nm) {i : Nat} {d : Int} {x v : Int32} {lo2 : List (Option Value)} (hd : decode cc pc = .ok (.iinc i d, 3)) (hx : lo[i]? = some (some (.int x))) (hv : x + Int32.ofInt d = v) (hn : noL lo = true) (hi : i < nL) (hlo : lo.set i (some (.int v)) = lo2) (hp : pc + 3 = pc2) (k : wp Γ cells slots Q pc2 lo2 st n K I L R) : wp Γ cells slots Q pc lo st n K I L R := by
  subst hp; subst hlo; intro H locs ls hW hS hl
  obtain ⟨q, hq⟩ := List.getElem?_of_mem ((lps_mem (gz Γ) lo 0 (0 + i, cv (gz Γ) (.int x))).mpr ⟨i, _, hx, rfl⟩)
  rw [Nat.zero_add] at hq
  exact lv_iinc C.1 C.2.1 hd hl hq hv (by rw [C.2.2.2.1]; exact hi) rfl (fun ls2 h2 => k H locs ls2 hW hS (lh.sto (ls := ls) hn h2))
theorem w_less {lo2 : List (Option Value)} (hs : ∀ (j : Nat) (v : Value), lo2[j]? = some (some v) → lo[j]? = some (some v)) (k : wp Γ cells slots Q pc lo2 st n K I L R) : wp Γ cells slots Q pc lo st n K I L R := fun H locs ls hW hS hl => k H locs ls hW hS (hl.less hs)
theorem w_widen {c2 s2 : Nat} (h1 : cells ≤ c2) (h2 : slots ≤ s2) (k : wp Γ c2 s2 Q pc lo st n K I L R) : wp Γ cells slots Q pc lo st n K I L R := fun H locs ls hW hS hl => W.widen h1 h2 (k H locs ls hW hS hl)
end RULES
