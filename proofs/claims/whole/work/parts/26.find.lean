theorem Mus.rows {J J2 : wJn} {c : Nat} (h : Mus J c) (h1 : J2 12 = J 12) (h2 : J2 13 = J 13) (h3 : J2 14 = J 14) : Mus J2 c := by
  unfold Mus
  rw [h1, h2, h3]
  exact h
/-- fewer locals -/
def lessB : List (Option Value) → List (Option Value) → Prop
  | [], _ => True
  | none :: l, [] => lessB l []
  | none :: l, _ :: m => lessB l m
  | some _ :: _, [] => False
  | some v :: l, some w :: m => v = w ∧ lessB l m
  | some _ :: _, none :: _ => False
theorem lessB_at : ∀ (l m : List (Option Value)), lessB l m → ∀ (j : Nat) (v : Value), l[j]? = some (some v) → m[j]? = some (some v)
  | [], _, _, j, v, h => by simp at h
  | none :: l, [], hb, 0, v, h => by simp at h
  | none :: l, [], hb, j + 1, v, h => by
    have := lessB_at l [] hb j v (by simpa using h)
    simp at this
  | none :: l, _ :: m, hb, 0, v, h => by simp at h
  | none :: l, _ :: m, hb, j + 1, v, h => by
    have := lessB_at l m hb j v (by simpa using h)
    simpa using this
  | some w :: l, [], hb, j, v, h => hb.elim
  | some w :: l, some u :: m, hb, 0, v, h => by
    obtain ⟨e, -⟩ := hb
    subst e
    simpa using h
  | some w :: l, some u :: m, hb, j + 1, v, h => by
    have := lessB_at l m hb.2 j v (by simpa using h)
    simpa using this
  | some w :: l, none :: m, hb, j, v, h => hb.elim
theorem w_drop {Γ : Gm} {cells slots pc : Nat} {Q : State → Prop} {lo lo2 : List (Option Value)} {st : List Value} {n : Nat} {K : wKd} {I : wIn} {L : wLn} {R : wRf} (k : wp Γ cells slots Q pc lo2 st n K I L R) (h : lessB lo2 lo) : wp Γ cells slots Q pc lo st n K I L R := w_less (lessB_at lo2 lo h) k
section FIND
variable {n : Nat} {K : wKd} {J : wJn} {L : wLn} {R : wRf}
theorem s_X9_find (hy : Ly K R) {c m s : Nat} (hm : Mus J c) (hp : Pin J m s) (hts : ∀ i, i < c → J 13 i < s) : S_X9_find [.ref 32, .ref 18, .ref 12] n K (zw J) L R (Det none n K (zw (findJ J c m s)) L R) := by
  have hc := hm.1
  have hc2 := hm.2.1
  obtain ⟨hp1, hp2, hp3, hp4, hp5, hp6⟩ := hp
  refine Sp_intro [some (.ref 32), some (.ref 18), some (.ref 12), none, none, none] rfl rfl (Nat.le_of_ble_eq_true rfl) rfl ?_
  intro Γ C
  replace C : C_X9_find Γ := C
  generalize hpost : (Det none n K (zw (findJ J c m s)) L R) = post
  generalize hJ1 : kOut (zeroK J s) c m = J1
  have r1 : ∀ a, a ≠ 33 → J1 a = J a := fun a ha => by rw [← hJ1, kOut_row ha]; exact ov_row ha
  have b0 : ∀ p, p ≤ m → ∀ q, q < s → 0 ≤ kOut (zeroK J s) c p 33 q ∧ kOut (zeroK J s) c p 33 q ≤ 100 * (p : Int) := by
    intro p
    induction p with
    | zero =>
      intro _ q hq
      have : kOut (zeroK J s) c 0 33 q = 0 := by
        show ov J 33 (fun _ => 0) s 33 q = 0
        rw [ov_in hq]
      omega
    | succ p ih =>
      intro hpm q hq
      have h1 := ih (by omega)
      have h2 : ∀ k, k ≤ c → 0 ≤ kIn (kOut (zeroK J s) c p) p k 33 q ∧ kIn (kOut (zeroK J s) c p) p k 33 q ≤ 100 * (p : Int) + k := by
        intro k
        induction k with
        | zero =>
          intro _
          have := h1 q hq
          simp only [kIn]
          omega
        | succ k ih2 =>
          intro hk
          have h3 := ih2 (by omega)
          simp only [kIn, kAdd]
          split
          · simp only [up2]
            split
            · rename_i h4
              rw [h4.2] at h3
              omega
            · omega
          · omega
      have := h2 c (by omega)
      simp only [kOut]
      omega
  have b1 : ∀ q, q < s → 0 ≤ J1 33 q ∧ J1 33 q ≤ 10000 := fun q hq => by
    have := b0 m (by omega) q hq
    rw [hJ1] at this
    omega
  -- the best one
  have key3 : ∀ (d j : Nat), 1 ≤ j → j + d = s → wp Γ 0 0 (QQ Γ post) 122 [some (.ref 32), some (.ref 18), some (.ref 12), some (.int (iI j)), none, none] [] n K (zw (up2 J1 32 0 (bestF (J1 33) j))) L R := by
    intro d
    induction d with
    | zero =>
      intro j hj1 hj
      have e18 : up2 J1 32 0 (bestF (J1 33) j) 18 = J 18 := by rw [up2_row (by decide), r1 18 (by decide)]
      have e32 : up2 J1 32 0 (bestF (J1 33) j) 32 0 = bestF (J1 33) j := up2_s _ _ _ _
      have e33 : up2 J1 32 0 (bestF (J1 33) j) 33 = J1 33 := up2_row (by decide)
      have hb := bestF_lt (J1 33) j (by omega)
      refine w_iload_n (pc2 := 123) C dX9_find_122 rfl rfl ?_
      refine w_aload_n (pc2 := 124) C dX9_find_123 rfl rfl ?_
      refine z_getI (pc2 := 127) C dX9_find_124 fl_X9_15 (by first | exact hy.k _ | assumption) rfl ?_
      -- at 127: .if_icmp .ge 32
      rw [e18]
      refine z_icmp_ge (pc2 := 130) (tgt := 159) C dX9_find_127 (by decide) rfl (by omega) (by omega) (fun h1 => ?_) (fun h1 => ?_)
      · skip
        refine w_aload_n (pc2 := 160) C dX9_find_159 rfl rfl ?_
        refine w_aload_n (pc2 := 161) C dX9_find_160 rfl rfl ?_
        refine w_getR (pc2 := 164) C dX9_find_161 fl_X9_9 (by first | exact hy.k _ | assumption) (by first | exact hy.r _ _ | assumption) rfl ?_
        refine w_aload_n (pc2 := 165) C dX9_find_164 rfl rfl ?_
        refine z_getI (pc2 := 168) C dX9_find_165 fl_X9_39 (by first | exact hy.k _ | assumption) rfl ?_
        -- at 168: .iaload
        rw [e32]
        refine z_iald (pc2 := 169) (j := bestF (J1 33) j) C dX9_find_168 (by first | exact hy.k _ | assumption) (by omega) (by omega) (by decide) rfl ?_
        rw [e33]
        refine z_putI (pc2 := 172) C dX9_find_169 fl_X9_42 (by first | exact hy.k _ | assumption) (by rfl) (by rfl) rfl ?_
        -- at 172: .return_
        exact w_ret C dX9_find_172 (by decide) (by decide) (by rw [← hpost]; unfold findJ; rw [hJ1]; exact DetI rfl (by rw [show j = s by omega]))
      · exact absurd hj (by omega)
    | succ d ih =>
      intro j hj1 hj
      have e18 : up2 J1 32 0 (bestF (J1 33) j) 18 = J 18 := by rw [up2_row (by decide), r1 18 (by decide)]
      have e32 : up2 J1 32 0 (bestF (J1 33) j) 32 0 = bestF (J1 33) j := up2_s _ _ _ _
      have e33 : up2 J1 32 0 (bestF (J1 33) j) 33 = J1 33 := up2_row (by decide)
      have hb := bestF_lt (J1 33) j (by omega)
      have g1 := b1 j (by omega)
      have g2 := b1 (bestF (J1 33) j) (by omega)
      refine w_iload_n (pc2 := 123) C dX9_find_122 rfl rfl ?_
      refine w_aload_n (pc2 := 124) C dX9_find_123 rfl rfl ?_
      refine z_getI (pc2 := 127) C dX9_find_124 fl_X9_15 (by first | exact hy.k _ | assumption) rfl ?_
      -- at 127: .if_icmp .ge 32
      rw [e18]
      refine z_icmp_ge (pc2 := 130) (tgt := 159) C dX9_find_127 (by decide) rfl (by omega) (by omega) (fun h1 => ?_) (fun h1 => ?_)
      · exact absurd hj (by omega)
      · skip
        refine w_aload_n (pc2 := 131) C dX9_find_130 rfl rfl ?_
        refine w_getR (pc2 := 134) C dX9_find_131 fl_X9_9 (by first | exact hy.k _ | assumption) (by first | exact hy.r _ _ | assumption) rfl ?_
        refine w_iload_n (pc2 := 135) C dX9_find_134 rfl rfl ?_
        -- at 135: .iaload
        refine z_iald (pc2 := 136) (j := j) C dX9_find_135 (by first | exact hy.k _ | assumption) (by omega) (by omega) (by decide) rfl ?_
        rw [e33]
        refine w_aload_n (pc2 := 137) C dX9_find_136 rfl rfl ?_
        refine w_getR (pc2 := 140) C dX9_find_137 fl_X9_9 (by first | exact hy.k _ | assumption) (by first | exact hy.r _ _ | assumption) rfl ?_
        refine w_aload_n (pc2 := 141) C dX9_find_140 rfl rfl ?_
        refine z_getI (pc2 := 144) C dX9_find_141 fl_X9_39 (by first | exact hy.k _ | assumption) rfl ?_
        -- at 144: .iaload
        rw [e32]
        refine z_iald (pc2 := 145) (j := bestF (J1 33) j) C dX9_find_144 (by first | exact hy.k _ | assumption) (by omega) (by omega) (by decide) rfl ?_
        rw [e33]
        refine z_icmp_le (pc2 := 148) (tgt := 153) C dX9_find_145 (by decide) rfl (by omega) (by omega) (fun h2 => ?_) (fun h2 => ?_)
        · skip
          refine w_iinc (pc2 := 156) C dX9_find_153 rfl (iI_add _ _) rfl (by decide) rfl rfl ?_
          try dsimp only [List.set]
          refine w_goto (tgt := 122) C dX9_find_156 (by decide) ?_
          -- at 122: .iload_n 3
          have e : bestF (J1 33) (j + 1) = bestF (J1 33) j := by rw [bestF, if_neg (by omega)]
          have := ih (j + 1) (by omega) (by omega)
          rw [e] at this
          exact this
        · skip
          refine w_aload_n (pc2 := 149) C dX9_find_148 rfl rfl ?_
          refine w_iload_n (pc2 := 150) C dX9_find_149 rfl rfl ?_
          refine z_putI (pc2 := 153) C dX9_find_150 fl_X9_39 (by first | exact hy.k _ | assumption) (by rfl) (by rfl) rfl ?_
          refine w_iinc (pc2 := 156) C dX9_find_153 rfl (iI_add _ _) rfl (by decide) rfl rfl ?_
          try dsimp only [List.set]
          refine w_goto (tgt := 122) C dX9_find_156 (by decide) ?_
          -- at 122: .iload_n 3
          have e : bestF (J1 33) (j + 1) = j := by rw [bestF, if_pos (by omega)]
          have := ih (j + 1) (by omega) (by omega)
          rw [e] at this
          have e2 : up2 (up2 J1 32 0 (bestF (J1 33) j)) 32 0 (j : Int) = up2 J1 32 0 (j : Int) := by
            funext a b
            simp only [up2]
            split <;> rfl
          rw [e2]
          exact this
  -- the counting
  have key2 : ∀ (d p k : Nat), p < m → k + d = c → (wp Γ 0 0 (QQ Γ post) 25 [some (.ref 32), some (.ref 18), some (.ref 12), some (.int (iI ((p + 1 : Nat) : Int))), none, none] [] n K (zw (kOut (zeroK J s) c (p + 1))) L R) → wp Γ 0 0 (QQ Γ post) 36 [some (.ref 32), some (.ref 18), some (.ref 12), some (.int (iI p)), some (.int (iI k)), none] [] n K (zw (kIn (kOut (zeroK J s) c p) p k)) L R := by
    intro d
    induction d with
    | zero =>
      intro p k hpm hk hkk
      have rr : ∀ a, a ≠ 33 → kIn (kOut (zeroK J s) c p) p k a = J a := fun a ha => by rw [kIn_row ha, kOut_row ha]; exact ov_row ha
      refine w_iload (pc2 := 38) C dX9_find_36 rfl rfl ?_
      refine w_aload_n (pc2 := 39) C dX9_find_38 rfl rfl ?_
      refine z_getI (pc2 := 42) C dX9_find_39 fl_X9_24 (by first | exact hy.k _ | assumption) rfl ?_
      -- at 42: .if_icmp .ge 67
      rw [rr 12 (by decide)]
      refine z_icmp_ge (pc2 := 45) (tgt := 109) C dX9_find_42 (by decide) rfl (by omega) (by omega) (fun h1 => ?_) (fun h1 => ?_)
      · skip
        refine w_iinc (pc2 := 112) C dX9_find_109 rfl (iI_add _ _) rfl (by decide) rfl rfl ?_
        try dsimp only [List.set]
        refine w_goto (tgt := 25) C dX9_find_112 (by decide) ?_
        -- at 25: .iload_n 3
        have e : kIn (kOut (zeroK J s) c p) p k = kOut (zeroK J s) c (p + 1) := by rw [show k = c by omega]; rfl
        rw [e]
        exact w_drop hkk ⟨rfl, rfl, rfl, rfl, trivial⟩
      · exact absurd hk (by omega)
    | succ d ih =>
      intro p k hpm hk hkk
      have rr : ∀ a, a ≠ 33 → kIn (kOut (zeroK J s) c p) p k a = J a := fun a ha => by rw [kIn_row ha, kOut_row ha]; exact ov_row ha
      have g1 := hm.2.2 k (by omega)
      have g2 := hp6 p hpm
      have g3 := hts k (by omega)
      have ih2 := ih p (k + 1) hpm (by omega) hkk
      simp only [kIn] at ih2
      generalize hJ2 : kIn (kOut (zeroK J s) c p) p k = J2 at rr ih2
      have es : shf J2 p k = if 0 ≤ J 19 p - J 13 k then J 19 p - J 13 k else J 19 p - J 13 k + J 18 3 := by
        unfold shf
        rw [rr 19 (by decide), rr 13 (by decide), rr 18 (by decide)]
      refine w_iload (pc2 := 38) C dX9_find_36 rfl rfl ?_
      refine w_aload_n (pc2 := 39) C dX9_find_38 rfl rfl ?_
      refine z_getI (pc2 := 42) C dX9_find_39 fl_X9_24 (by first | exact hy.k _ | assumption) rfl ?_
      -- at 42: .if_icmp .ge 67
      rw [rr 12 (by decide)]
      refine z_icmp_ge (pc2 := 45) (tgt := 109) C dX9_find_42 (by decide) rfl (by omega) (by omega) (fun h1 => ?_) (fun h1 => ?_)
      · exact absurd hk (by omega)
      · skip
        refine w_aload_n (pc2 := 46) C dX9_find_45 rfl rfl ?_
        refine w_getR (pc2 := 49) C dX9_find_46 fl_X9_27 (by first | exact hy.k _ | assumption) (by first | exact hy.r _ _ | assumption) rfl ?_
        refine w_iload (pc2 := 51) C dX9_find_49 rfl rfl ?_
        -- at 51: .iaload
        refine z_iald (pc2 := 52) (j := k) C dX9_find_51 (by first | exact hy.k _ | assumption) (by omega) (by omega) (by decide) rfl ?_
        rw [rr 14 (by decide)]
        refine w_aload_n (pc2 := 53) C dX9_find_52 rfl rfl ?_
        refine w_getR (pc2 := 56) C dX9_find_53 fl_X9_30 (by first | exact hy.k _ | assumption) (by first | exact hy.r _ _ | assumption) rfl ?_
        refine w_iload_n (pc2 := 57) C dX9_find_56 rfl rfl ?_
        -- at 57: .iaload
        refine z_iald (pc2 := 58) (j := p) C dX9_find_57 (by first | exact hy.k _ | assumption) (by omega) (by omega) (by decide) rfl ?_
        rw [rr 20 (by decide)]
        refine z_icmp_ne (pc2 := 61) (tgt := 103) C dX9_find_58 (by decide) rfl (by omega) (by omega) (fun h2 => ?_) (fun h2 => ?_)
        · have e : kAdd J2 p k = J2 := by unfold kAdd; rw [rr 14 (by decide), rr 20 (by decide), if_neg h2]
          rw [e] at ih2
          refine w_iinc (pc2 := 106) C dX9_find_103 rfl (iI_add _ _) rfl (by decide) rfl rfl ?_
          try dsimp only [List.set]
          refine w_goto (tgt := 36) C dX9_find_106 (by decide) ?_
          -- at 36: .iload 4
          exact ih2
        · have e : kAdd J2 p k = up2 J2 33 (shf J2 p k).toNat (J2 33 (shf J2 p k).toNat + 1) := by unfold kAdd; rw [rr 14 (by decide), rr 20 (by decide), if_pos h2]
          rw [e] at ih2
          refine w_aload_n (pc2 := 62) C dX9_find_61 rfl rfl ?_
          refine w_getR (pc2 := 65) C dX9_find_62 fl_X9_33 (by first | exact hy.k _ | assumption) (by first | exact hy.r _ _ | assumption) rfl ?_
          refine w_iload_n (pc2 := 66) C dX9_find_65 rfl rfl ?_
          -- at 66: .iaload
          refine z_iald (pc2 := 67) (j := p) C dX9_find_66 (by first | exact hy.k _ | assumption) (by omega) (by omega) (by decide) rfl ?_
          rw [rr 19 (by decide)]
          refine w_aload_n (pc2 := 68) C dX9_find_67 rfl rfl ?_
          refine w_getR (pc2 := 71) C dX9_find_68 fl_X9_36 (by first | exact hy.k _ | assumption) (by first | exact hy.r _ _ | assumption) rfl ?_
          refine w_iload (pc2 := 73) C dX9_find_71 rfl rfl ?_
          -- at 73: .iaload
          refine z_iald (pc2 := 74) (j := k) C dX9_find_73 (by first | exact hy.k _ | assumption) (by omega) (by omega) (by decide) rfl ?_
          rw [rr 13 (by decide)]
          refine z_isub (pc2 := 75) C dX9_find_74 rfl ?_
          refine w_istore (pc2 := 77) C dX9_find_75 rfl (by decide) rfl rfl ?_
          try dsimp only [List.set]
          refine w_aload_n (pc2 := 78) C dX9_find_77 rfl rfl ?_
          refine w_getR (pc2 := 81) C dX9_find_78 fl_X9_9 (by first | exact hy.k _ | assumption) (by first | exact hy.r _ _ | assumption) rfl ?_
          refine w_iload (pc2 := 83) C dX9_find_81 rfl rfl ?_
          -- at 83: .ifCond .ge 13
          refine z_if_ge (pc2 := 86) (tgt := 96) C dX9_find_83 (by decide) rfl (by omega) (fun h3 => ?_) (fun h3 => ?_)
          · rw [if_pos h3] at es
            rw [es] at ih2
            refine w_iload (pc2 := 98) C dX9_find_96 rfl rfl ?_
            refine w_dup2 (pc2 := 99) C dX9_find_98 rfl rfl rfl ?_
            -- at 99: .iaload
            refine z_iald (pc2 := 100) (j := (J 19 p - J 13 k).toNat) C dX9_find_99 (by first | exact hy.k _ | assumption) (by omega) (by omega) (by decide) rfl ?_
            refine w_iconst (pc2 := 101) (v := iI 1) C dX9_find_100 (by decide) rfl ?_
            refine z_iadd (pc2 := 102) C dX9_find_101 rfl ?_
            -- at 102: .iastore
            refine z_iast (pc2 := 103) (j := (J 19 p - J 13 k).toNat) C dX9_find_102 (by first | exact hy.k _ | assumption) (by omega) (by omega) (by decide) rfl ?_
            refine w_iinc (pc2 := 106) C dX9_find_103 rfl (iI_add _ _) rfl (by decide) rfl rfl ?_
            try dsimp only [List.set]
            refine w_goto (tgt := 36) C dX9_find_106 (by decide) ?_
            -- at 36: .iload 4
            exact w_drop ih2 ⟨rfl, rfl, rfl, rfl, rfl, trivial⟩
          · rw [if_neg h3] at es
            rw [es] at ih2
            refine w_iload (pc2 := 88) C dX9_find_86 rfl rfl ?_
            refine w_aload_n (pc2 := 89) C dX9_find_88 rfl rfl ?_
            refine z_getI (pc2 := 92) C dX9_find_89 fl_X9_15 (by first | exact hy.k _ | assumption) rfl ?_
            refine z_iadd (pc2 := 93) C dX9_find_92 rfl ?_
            refine w_goto (tgt := 98) C dX9_find_93 (by decide) ?_
            refine w_dup2 (pc2 := 99) C dX9_find_98 rfl rfl rfl ?_
            -- at 99: .iaload
            rw [rr 18 (by decide)]
            refine z_iald (pc2 := 100) (j := (J 19 p - J 13 k + J 18 3).toNat) C dX9_find_99 (by first | exact hy.k _ | assumption) (by omega) (by omega) (by decide) rfl ?_
            refine w_iconst (pc2 := 101) (v := iI 1) C dX9_find_100 (by decide) rfl ?_
            refine z_iadd (pc2 := 102) C dX9_find_101 rfl ?_
            -- at 102: .iastore
            refine z_iast (pc2 := 103) (j := (J 19 p - J 13 k + J 18 3).toNat) C dX9_find_102 (by first | exact hy.k _ | assumption) (by omega) (by omega) (by decide) rfl ?_
            refine w_iinc (pc2 := 106) C dX9_find_103 rfl (iI_add _ _) rfl (by decide) rfl rfl ?_
            try dsimp only [List.set]
            refine w_goto (tgt := 36) C dX9_find_106 (by decide) ?_
            -- at 36: .iload 4
            exact w_drop ih2 ⟨rfl, rfl, rfl, rfl, rfl, trivial⟩
  have key1 : ∀ (d p : Nat), p + d = m → wp Γ 0 0 (QQ Γ post) 25 [some (.ref 32), some (.ref 18), some (.ref 12), some (.int (iI p)), none, none] [] n K (zw (kOut (zeroK J s) c p)) L R := by
    intro d
    induction d with
    | zero =>
      intro p hpm
      have rr : ∀ a, a ≠ 33 → kOut (zeroK J s) c p a = J a := fun a ha => by rw [kOut_row ha]; exact ov_row ha
      refine w_iload_n (pc2 := 26) C dX9_find_25 rfl rfl ?_
      refine w_aload_n (pc2 := 27) C dX9_find_26 rfl rfl ?_
      refine z_getI (pc2 := 30) C dX9_find_27 fl_X9_21 (by first | exact hy.k _ | assumption) rfl ?_
      -- at 30: .if_icmp .ge 85
      rw [rr 18 (by decide)]
      refine z_icmp_ge (pc2 := 33) (tgt := 115) C dX9_find_30 (by decide) rfl (by omega) (by omega) (fun h1 => ?_) (fun h1 => ?_)
      · rw [show p = m by omega, hJ1]
        refine w_aload_n (pc2 := 116) C dX9_find_115 rfl rfl ?_
        refine w_iconst (pc2 := 117) (v := iI 0) C dX9_find_116 (by decide) rfl ?_
        refine z_putI (pc2 := 120) C dX9_find_117 fl_X9_39 (by first | exact hy.k _ | assumption) (by rfl) (by rfl) rfl ?_
        refine w_iconst (pc2 := 121) (v := iI 1) C dX9_find_120 (by decide) rfl ?_
        refine w_istore_n (pc2 := 122) C dX9_find_121 rfl (by decide) rfl rfl ?_
        try dsimp only [List.set]
        -- at 122: .iload_n 3
        have h9 := key3 (s - 1) 1 (by omega) (by omega)
        rw [show bestF (J1 33) 1 = 0 by simp [bestF]] at h9
        exact h9
      · exact absurd hpm (by omega)
    | succ d ih =>
      intro p hpm
      have rr : ∀ a, a ≠ 33 → kOut (zeroK J s) c p a = J a := fun a ha => by rw [kOut_row ha]; exact ov_row ha
      refine w_iload_n (pc2 := 26) C dX9_find_25 rfl rfl ?_
      refine w_aload_n (pc2 := 27) C dX9_find_26 rfl rfl ?_
      refine z_getI (pc2 := 30) C dX9_find_27 fl_X9_21 (by first | exact hy.k _ | assumption) rfl ?_
      -- at 30: .if_icmp .ge 85
      rw [rr 18 (by decide)]
      refine z_icmp_ge (pc2 := 33) (tgt := 115) C dX9_find_30 (by decide) rfl (by omega) (by omega) (fun h1 => ?_) (fun h1 => ?_)
      · exact absurd hpm (by omega)
      · skip
        refine w_iconst (pc2 := 34) (v := iI 0) C dX9_find_33 (by decide) rfl ?_
        refine w_istore (pc2 := 36) C dX9_find_34 rfl (by decide) rfl rfl ?_
        try dsimp only [List.set]
        -- at 36: .iload 4
        exact key2 c p 0 (by omega) (by omega) (ih (p + 1) (by omega))
  have key0 : ∀ (d j : Nat), j + d = s → wp Γ 0 0 (QQ Γ post) 2 [some (.ref 32), some (.ref 18), some (.ref 12), some (.int (iI j)), none, none] [] n K (zw (ov J 33 (fun _ => 0) j)) L R := by
    intro d
    induction d with
    | zero =>
      intro j hj
      have e18 : ov J 33 (fun _ => 0) j 18 = J 18 := ov_row (by decide)
      refine w_iload_n (pc2 := 3) C dX9_find_2 rfl rfl ?_
      refine w_aload_n (pc2 := 4) C dX9_find_3 rfl rfl ?_
      refine z_getI (pc2 := 7) C dX9_find_4 fl_X9_15 (by first | exact hy.k _ | assumption) rfl ?_
      -- at 7: .if_icmp .ge 16
      rw [e18]
      refine z_icmp_ge (pc2 := 10) (tgt := 23) C dX9_find_7 (by decide) rfl (by omega) (by omega) (fun h1 => ?_) (fun h1 => ?_)
      · rw [show j = s by omega]
        refine w_iconst (pc2 := 24) (v := iI 0) C dX9_find_23 (by decide) rfl ?_
        refine w_istore_n (pc2 := 25) C dX9_find_24 rfl (by decide) rfl rfl ?_
        try dsimp only [List.set]
        -- at 25: .iload_n 3
        exact key1 m 0 (by omega)
      · exact absurd hj (by omega)
    | succ d ih =>
      intro j hj
      have e18 : ov J 33 (fun _ => 0) j 18 = J 18 := ov_row (by decide)
      refine w_iload_n (pc2 := 3) C dX9_find_2 rfl rfl ?_
      refine w_aload_n (pc2 := 4) C dX9_find_3 rfl rfl ?_
      refine z_getI (pc2 := 7) C dX9_find_4 fl_X9_15 (by first | exact hy.k _ | assumption) rfl ?_
      -- at 7: .if_icmp .ge 16
      rw [e18]
      refine z_icmp_ge (pc2 := 10) (tgt := 23) C dX9_find_7 (by decide) rfl (by omega) (by omega) (fun h1 => ?_) (fun h1 => ?_)
      · exact absurd hj (by omega)
      · skip
        refine w_aload_n (pc2 := 11) C dX9_find_10 rfl rfl ?_
        refine w_getR (pc2 := 14) C dX9_find_11 fl_X9_9 (by first | exact hy.k _ | assumption) (by first | exact hy.r _ _ | assumption) rfl ?_
        refine w_iload_n (pc2 := 15) C dX9_find_14 rfl rfl ?_
        refine w_iconst (pc2 := 16) (v := iI 0) C dX9_find_15 (by decide) rfl ?_
        -- at 16: .iastore
        refine z_iast (pc2 := 17) (j := j) C dX9_find_16 (by first | exact hy.k _ | assumption) (by omega) (by omega) (by decide) rfl ?_
        have e := ov_up J 33 (fun _ => 0) j
        rw [e]
        refine w_iinc (pc2 := 20) C dX9_find_17 rfl (iI_add _ _) rfl (by decide) rfl rfl ?_
        try dsimp only [List.set]
        refine w_goto (tgt := 2) C dX9_find_20 (by decide) ?_
        -- at 2: .iload_n 3
        exact ih (j + 1) (by omega)
  refine w_iconst (pc2 := 1) (v := iI 0) C dX9_find_0 (by decide) rfl ?_
  refine w_istore_n (pc2 := 2) C dX9_find_1 rfl (by decide) rfl rfl ?_
  try dsimp only [List.set]
  -- at 2: .iload_n 3
  have := key0 s 0 (by omega)
  rw [ov_0] at this
  exact this
def chgJ (J : wJn) (c m s : Nat) : wJn :=
  let J1 := findJ J c m s
  up2 (up2 (pdJ J1 (J1 32 0) c) 18 2 c) 18 4 (J1 32 0)
theorem s_X10_change (hy : Ly K R) {c m s : Nat} (hm : Mus J c) (hp : Pin J m s) (hso : ∀ i, i < c → J 13 i ≤ J 13 (c - 1)) : S_X10_change [.ref 0] n K (zw J) L R (Det (some (.int (iI (if c = 0 ∨ J 13 (c - 1) < s then (c : Int) - findJ J c m s 32 1 else -1)))) n K (zw (if c = 0 ∨ J 13 (c - 1) < s then chgJ J c m s else J)) L R) := by
  have hc := hm.1
  have hc2 := hm.2.1
  have hp3 := hp.2.2.1
  have hp4 := hp.2.2.2.1
  have hp5 := hp.2.2.2.2.1
  refine Sp_intro [some (.ref 0)] rfl rfl (Nat.le_of_ble_eq_true rfl) rfl ?_
  intro Γ C
  replace C : C_X10_change Γ := C
  refine w_aload_n (pc2 := 1) C dX10_change_0 rfl rfl ?_
  refine w_getR (pc2 := 4) C dX10_change_1 fl_X10_28 (by first | exact hy.k _ | assumption) (by first | exact hy.r _ _ | assumption) rfl ?_
  refine w_getR (pc2 := 7) C dX10_change_4 fl_X10_162 (by first | exact hy.k _ | assumption) (by first | exact hy.r _ _ | assumption) rfl ?_
  refine w_aload_n (pc2 := 8) C dX10_change_7 rfl rfl ?_
  refine w_getR (pc2 := 11) C dX10_change_8 fl_X10_28 (by first | exact hy.k _ | assumption) (by first | exact hy.r _ _ | assumption) rfl ?_
  refine w_getR (pc2 := 14) C dX10_change_11 fl_X10_38 (by first | exact hy.k _ | assumption) (by first | exact hy.r _ _ | assumption) rfl ?_
  -- at 14: .invokevirtual 171
  refine w_cVi (pc2 := 17)  C dX10_change_14 mb_X10_171 mv_X1_fits (s_X1_fits hy hm (by omega)) (by first | exact hy.k _ | assumption) rfl (by decide) rfl rfl (Nat.le_of_ble_eq_true rfl) ⟨by decide, by decide⟩ ⟨rfl, rfl⟩ ⟨by decide, by decide⟩ rfl ?_
  -- at 17: .ifCond .ne 5
  refine z_if_ne (pc2 := 20) (tgt := 22) C dX10_change_17 (by decide) rfl (by split <;> omega) (fun h1 => ?_) (fun h1 => ?_)
  · have h2 : c = 0 ∨ J 13 (c - 1) < s := by
      rcases Decidable.em (c = 0 ∨ J 13 (c - 1) < J 18 3) with q | q
      · omega
      · rw [if_neg q] at h1; exact absurd rfl h1
    have hts : ∀ i, i < c → J 13 i < s := fun i hi => by have := hso i hi; omega
    have q1 : ∀ a, a ≠ 33 → a ≠ 32 → findJ J c m s a = J a := fun a ha hb => by
      unfold findJ
      rw [up2_row hb, up2_row hb, kOut_row ha]
      exact ov_row ha
    have hm2 : Mus (findJ J c m s) c := hm.rows (q1 12 (by decide) (by decide)) (q1 13 (by decide) (by decide)) (q1 14 (by decide) (by decide))
    have e18 : findJ J c m s 18 = J 18 := q1 18 (by decide) (by decide)
    have hb : 0 ≤ findJ J c m s 32 0 ∧ findJ J c m s 32 0 < findJ J c m s 18 3 := by
      have e : findJ J c m s 32 0 = bestF (kOut (zeroK J s) c m 33) s := by
        unfold findJ
        rw [up2_n _ _ _ _ (by omega), up2_s]
      rw [e18, e, hp3]
      have := bestF_lt (kOut (zeroK J s) c m 33) s (by omega)
      omega
    refine w_aload_n (pc2 := 23) C dX10_change_22 rfl rfl ?_
    refine w_getR (pc2 := 26) C dX10_change_23 fl_X10_59 (by first | exact hy.k _ | assumption) (by first | exact hy.r _ _ | assumption) rfl ?_
    refine w_aload_n (pc2 := 27) C dX10_change_26 rfl rfl ?_
    refine w_getR (pc2 := 30) C dX10_change_27 fl_X10_28 (by first | exact hy.k _ | assumption) (by first | exact hy.r _ _ | assumption) rfl ?_
    refine w_getR (pc2 := 33) C dX10_change_30 fl_X10_162 (by first | exact hy.k _ | assumption) (by first | exact hy.r _ _ | assumption) rfl ?_
    refine w_aload_n (pc2 := 34) C dX10_change_33 rfl rfl ?_
    refine w_getR (pc2 := 37) C dX10_change_34 fl_X10_28 (by first | exact hy.k _ | assumption) (by first | exact hy.r _ _ | assumption) rfl ?_
    refine w_getR (pc2 := 40) C dX10_change_37 fl_X10_38 (by first | exact hy.k _ | assumption) (by first | exact hy.r _ _ | assumption) rfl ?_
    -- at 40: .invokevirtual 175
    refine w_cVv (pc2 := 43)  C dX10_change_40 mb_X10_175 mv_X9_find (s_X9_find hy hm hp hts) (by first | exact hy.k _ | assumption) rfl (by decide) rfl rfl (Nat.le_of_ble_eq_true rfl) ⟨by decide, by decide⟩ ⟨rfl, rfl⟩ ⟨by decide, by decide⟩ rfl ?_
    refine w_aload_n (pc2 := 44) C dX10_change_43 rfl rfl ?_
    refine w_getR (pc2 := 47) C dX10_change_44 fl_X10_28 (by first | exact hy.k _ | assumption) (by first | exact hy.r _ _ | assumption) rfl ?_
    refine w_getR (pc2 := 50) C dX10_change_47 fl_X10_162 (by first | exact hy.k _ | assumption) (by first | exact hy.r _ _ | assumption) rfl ?_
    refine w_aload_n (pc2 := 51) C dX10_change_50 rfl rfl ?_
    refine w_getR (pc2 := 54) C dX10_change_51 fl_X10_28 (by first | exact hy.k _ | assumption) (by first | exact hy.r _ _ | assumption) rfl ?_
    refine w_getR (pc2 := 57) C dX10_change_54 fl_X10_38 (by first | exact hy.k _ | assumption) (by first | exact hy.r _ _ | assumption) rfl ?_
    refine w_aload_n (pc2 := 58) C dX10_change_57 rfl rfl ?_
    refine w_getR (pc2 := 61) C dX10_change_58 fl_X10_59 (by first | exact hy.k _ | assumption) (by first | exact hy.r _ _ | assumption) rfl ?_
    refine z_getI (pc2 := 64) C dX10_change_61 fl_X10_179 (by first | exact hy.k _ | assumption) rfl ?_
    -- at 64: .invokevirtual 182
    refine w_cVv (pc2 := 67)  C dX10_change_64 mb_X10_182 mv_X1_pinDown (s_X1_pinDown hy hm2 (by rw [e18]; omega) hb) (by first | exact hy.k _ | assumption) rfl (by decide) rfl rfl (Nat.le_of_ble_eq_true rfl) ⟨by decide, by decide⟩ ⟨rfl, rfl⟩ ⟨by decide, by decide⟩ rfl ?_
    refine w_aload_n (pc2 := 68) C dX10_change_67 rfl rfl ?_
    refine w_getR (pc2 := 71) C dX10_change_68 fl_X10_28 (by first | exact hy.k _ | assumption) (by first | exact hy.r _ _ | assumption) rfl ?_
    refine w_getR (pc2 := 74) C dX10_change_71 fl_X10_38 (by first | exact hy.k _ | assumption) (by first | exact hy.r _ _ | assumption) rfl ?_
    refine z_getI (pc2 := 77) C dX10_change_74 fl_X10_98 (by first | exact hy.k _ | assumption) rfl ?_
    refine w_aload_n (pc2 := 78) C dX10_change_77 rfl rfl ?_
    refine w_getR (pc2 := 81) C dX10_change_78 fl_X10_59 (by first | exact hy.k _ | assumption) (by first | exact hy.r _ _ | assumption) rfl ?_
    refine z_getI (pc2 := 84) C dX10_change_81 fl_X10_186 (by first | exact hy.k _ | assumption) rfl ?_
    refine z_isub (pc2 := 85) C dX10_change_84 rfl ?_
    -- at 85: .ireturn
    have e1 : (up2 (up2 (pdJ (findJ J c m s) (findJ J c m s 32 0) c) 18 2 c) 18 4 (findJ J c m s 32 0)) 12 2 = (c : Int) := by
      rw [up2_row (by decide), up2_row (by decide), pdJ_row (by decide) (by decide)]; exact hm2.1
    have e2 : (up2 (up2 (pdJ (findJ J c m s) (findJ J c m s 32 0) c) 18 2 c) 18 4 (findJ J c m s 32 0)) 32 1 = findJ J c m s 32 1 := by
      rw [up2_row (by decide), up2_row (by decide), pdJ_row (by decide) (by decide)]
    rw [e1, e2]
    exact w_iret C dX10_change_85 (by decide) (by decide) (DetI (by rw [if_pos h2]) (by rw [if_pos h2]; rfl))
  · have h2 : ¬ (c = 0 ∨ J 13 (c - 1) < s) := by
      intro q
      rw [if_pos (by omega)] at h1; exact absurd h1 (by decide)
    refine w_iconst (pc2 := 21) (v := iI (-1)) C dX10_change_20 (by decide) rfl ?_
    -- at 21: .ireturn
    exact w_iret C dX10_change_21 (by decide) (by decide) (DetI (by rw [if_neg h2]) (by rw [if_neg h2]))
end FIND
