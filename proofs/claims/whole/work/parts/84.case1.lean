section CASES1
theorem lc_fault {Γ : Gm} {Q : State → Prop} {cells slots n i b Ls : Nat} {xs : Nat → Int32} {K : wKd} {J : wJn} {L : wLn} {R : wRf} (C : C_L Γ) (hSc : ScA Γ b Ls xs) (hi : i + 6 ≤ Ls) (hc2 : cells + 12 ≤ 600000 ∧ slots + 569 ≤ 7302250) (hI : Inv n K J L R) (nx : Nx Γ Q b i cells slots) : wp Γ cells slots Q 251 [some (.retAddr b), some (.ref 0), some (.ref 34), some (.int (iI (i : Int)))] [] n K (zw J) L R := by
  have hL32 := hSc.2.2.2
  have hcs : cells ≤ room_1.cells ∧ slots ≤ room_1.slots := ⟨by show cells ≤ 600000; omega, by show slots ≤ 7302250; omega⟩
  have hy := hI.1
  obtain ⟨c, m, s, hM, hS⟩ := hI.2.2.2.2.2.1
  obtain ⟨a1, x1, y1, e1⟩ := ix_cases (xs (i + 1))
  refine w_aload_n (pc2 := 252) C dL_law_251 rfl rfl ?_
  refine w_aload_nx (pc2 := 253) C dL_law_252 rfl rfl ?_
  refine w_iload_n (pc2 := 254) C dL_law_253 rfl rfl ?_
  refine w_iconst (pc2 := 255) (v := iI 1) C dL_law_254 (by decide) rfl ?_
  refine z_iadd (pc2 := 256) C dL_law_255 rfl ?_
  -- at 256: .iaload
  refine w_sld (pc2 := 257) (j := i + 1) C hSc dL_law_256 (by omega) (by omega) rfl ?_
  rw [e1]
  refine w_cVi (pc2 := 260)  C dL_law_257 mb_L_28 mv_X10_fault (s_X10_fault hy ⟨x1, y1⟩) (by first | exact hy.k _ | assumption | rfl | ((try simp only [kM, kTo, kSc, nK]); (repeat rw [up1_n _ _ _ (by omega)]); first | assumption | exact up1_s _ _ _)) rfl (by decide) rfl rfl (Nat.le_of_ble_eq_true rfl) ⟨by decide, by decide⟩ ⟨rfl, rfl⟩ hcs rfl ?_
  refine w_aload_n (pc2 := 261) C dL_law_260 rfl rfl ?_
  refine w_aload_nx (pc2 := 262) C dL_law_261 rfl rfl ?_
  refine w_iload_n (pc2 := 263) C dL_law_262 rfl rfl ?_
  refine w_iconst (pc2 := 264) (v := iI 1) C dL_law_263 (by decide) rfl ?_
  refine z_iadd (pc2 := 265) C dL_law_264 rfl ?_
  -- at 265: .iaload
  refine w_sld (pc2 := 266) (j := i + 1) C hSc dL_law_265 (by omega) (by omega) rfl ?_
  rw [e1]
  refine w_cVi (pc2 := 269)  C dL_law_266 mb_L_32 mv_X11_fault (s_X11_fault hy ⟨x1, y1⟩) (by first | exact hy.k _ | assumption | rfl | ((try simp only [kM, kTo, kSc, nK]); (repeat rw [up1_n _ _ _ (by omega)]); first | assumption | exact up1_s _ _ _)) rfl (by decide) rfl rfl (Nat.le_of_ble_eq_true rfl) ⟨by decide, by decide⟩ ⟨rfl, rfl⟩ hcs rfl ?_
  refine w_icmp_eq (pc2 := 272) (tgt := 762) C dL_law_269 (by decide) rfl (fun _ => ?_) (fun h => absurd ?_ h)
  · exact nx.lo hI
  · rw [hM.e231, hM.e232]

theorem lc_strike {Γ : Gm} {Q : State → Prop} {cells slots n i b Ls : Nat} {xs : Nat → Int32} {K : wKd} {J : wJn} {L : wLn} {R : wRf} (C : C_L Γ) (hSc : ScA Γ b Ls xs) (hi : i + 6 ≤ Ls) (hc2 : cells + 12 ≤ 600000 ∧ slots + 569 ≤ 7302250) (hI : Inv n K J L R) (nx : Nx Γ Q b i cells slots) : wp Γ cells slots Q 274 [some (.retAddr b), some (.ref 0), some (.ref 34), some (.int (iI (i : Int)))] [] n K (zw J) L R := by
  have hL32 := hSc.2.2.2
  have hcs : cells ≤ room_1.cells ∧ slots ≤ room_1.slots := ⟨by show cells ≤ 600000; omega, by show slots ≤ 7302250; omega⟩
  have hy := hI.1
  obtain ⟨c, m, s, hM, hS⟩ := hI.2.2.2.2.2.1
  obtain ⟨a1, x1, y1, e1⟩ := ix_cases (xs (i + 1))
  obtain ⟨a2, x2, y2, e2⟩ := ix_cases (xs (i + 2))
  refine w_aload_n (pc2 := 275) C dL_law_274 rfl rfl ?_
  refine w_aload_nx (pc2 := 276) C dL_law_275 rfl rfl ?_
  refine w_iload_n (pc2 := 277) C dL_law_276 rfl rfl ?_
  refine w_iconst (pc2 := 278) (v := iI 1) C dL_law_277 (by decide) rfl ?_
  refine z_iadd (pc2 := 279) C dL_law_278 rfl ?_
  -- at 279: .iaload
  refine w_sld (pc2 := 280) (j := i + 1) C hSc dL_law_279 (by omega) (by omega) rfl ?_
  rw [e1]
  refine w_aload_nx (pc2 := 281) C dL_law_280 rfl rfl ?_
  refine w_iload_n (pc2 := 282) C dL_law_281 rfl rfl ?_
  refine w_iconst (pc2 := 283) (v := iI 2) C dL_law_282 (by decide) rfl ?_
  refine z_iadd (pc2 := 284) C dL_law_283 rfl ?_
  -- at 284: .iaload
  refine w_sld (pc2 := 285) (j := i + 2) C hSc dL_law_284 (by omega) (by omega) rfl ?_
  rw [e2]
  refine w_cVi (pc2 := 288)  C dL_law_285 mb_L_33 mv_X10_strike (s_X10_strike hy ⟨x1, y1⟩ ⟨x2, y2⟩ (by have := hM.mus.1; have := hM.mus.2.1; omega)) (by first | exact hy.k _ | assumption | rfl | ((try simp only [kM, kTo, kSc, nK]); (repeat rw [up1_n _ _ _ (by omega)]); first | assumption | exact up1_s _ _ _)) rfl (by decide) rfl rfl (Nat.le_of_ble_eq_true rfl) ⟨by decide, by decide⟩ ⟨rfl, rfl⟩ hcs rfl ?_
  refine w_aload_n (pc2 := 289) C dL_law_288 rfl rfl ?_
  refine w_aload_nx (pc2 := 290) C dL_law_289 rfl rfl ?_
  refine w_iload_n (pc2 := 291) C dL_law_290 rfl rfl ?_
  refine w_iconst (pc2 := 292) (v := iI 1) C dL_law_291 (by decide) rfl ?_
  refine z_iadd (pc2 := 293) C dL_law_292 rfl ?_
  -- at 293: .iaload
  refine w_sld (pc2 := 294) (j := i + 1) C hSc dL_law_293 (by omega) (by omega) rfl ?_
  rw [e1]
  refine w_aload_nx (pc2 := 295) C dL_law_294 rfl rfl ?_
  refine w_iload_n (pc2 := 296) C dL_law_295 rfl rfl ?_
  refine w_iconst (pc2 := 297) (v := iI 2) C dL_law_296 (by decide) rfl ?_
  refine z_iadd (pc2 := 298) C dL_law_297 rfl ?_
  -- at 298: .iaload
  refine w_sld (pc2 := 299) (j := i + 2) C hSc dL_law_298 (by omega) (by omega) rfl ?_
  rw [e2]
  refine w_cVi (pc2 := 302)  C dL_law_299 mb_L_37 mv_X11_strike (s_X11_strike hy hM.mur.1 hM.mur.2.1 ⟨x1, y1⟩ ⟨x2, y2⟩) (by first | exact hy.k _ | assumption | rfl | ((try simp only [kM, kTo, kSc, nK]); (repeat rw [up1_n _ _ _ (by omega)]); first | assumption | exact up1_s _ _ _)) rfl (by decide) rfl rfl (Nat.le_of_ble_eq_true rfl) ⟨by decide, by decide⟩ ⟨rfl, rfl⟩ hcs rfl ?_
  refine w_icmp_eq (pc2 := 305) (tgt := 762) C dL_law_302 (by decide) rfl (fun _ => ?_) (fun h => absurd ?_ h)
  · exact nx.lo hI
  · rw [hM.mus.1]
    by_cases h0 : 0 ≤ a1 ∧ a1 < (c : Int)
    · have : J 35 (2 + a1.toNat) = J 13 a1.toNat ∧ J 35 (102 + a1.toNat) = J 14 a1.toNat := hM.same a1.toNat (by omega)
      rw [if_pos h0, if_pos h0, this.1, this.2]
    · rw [if_neg h0, if_neg h0]

theorem lc_end {Γ : Gm} {Q : State → Prop} {cells slots n i b Ls : Nat} {xs : Nat → Int32} {K : wKd} {J : wJn} {L : wLn} {R : wRf} (C : C_L Γ) (hSc : ScA Γ b Ls xs) (hi : i + 6 ≤ Ls) (hc2 : cells + 12 ≤ 600000 ∧ slots + 569 ≤ 7302250) (hI : Inv n K J L R) (nx : Nx Γ Q b i cells slots) : wp Γ cells slots Q 215 [some (.retAddr b), some (.ref 0), some (.ref 34), some (.int (iI (i : Int)))] [] n K (zw J) L R := by
  have hL32 := hSc.2.2.2
  have hcs : cells ≤ room_1.cells ∧ slots ≤ room_1.slots := ⟨by show cells ≤ 600000; omega, by show slots ≤ 7302250; omega⟩
  have hy := hI.1
  obtain ⟨c, m, s, hM, hS⟩ := hI.2.2.2.2.2.1
  obtain ⟨a1, x1, y1, e1⟩ := ix_cases (xs (i + 1))
  obtain ⟨T, t1, t2, t3, t4⟩ := hI.2.2.2.2.1
  have g34 : ∀ x : Int, up2 J 1 1 x 34 4 = J 34 4 := fun x => by rw [up2_row (by decide)]
  by_cases hc : 0 ≤ a1 ∧ a1 ≤ J 1 1
  · have hc3 : 0 ≤ a1 ∧ a1 ≤ up2 J 1 1 a1 34 4 := by rw [g34, t3]; omega
    refine w_aload_n (pc2 := 216) C dL_law_215 rfl rfl ?_
    refine w_aload_nx (pc2 := 217) C dL_law_216 rfl rfl ?_
    refine w_iload_n (pc2 := 218) C dL_law_217 rfl rfl ?_
    refine w_iconst (pc2 := 219) (v := iI 1) C dL_law_218 (by decide) rfl ?_
    refine z_iadd (pc2 := 220) C dL_law_219 rfl ?_
    -- at 220: .iaload
    refine w_sld (pc2 := 221) (j := i + 1) C hSc dL_law_220 (by omega) (by omega) rfl ?_
    rw [e1]
    refine w_cVi (pc2 := 224)  C dL_law_221 mb_L_18 mv_X10_end (s_X10_end hy ⟨x1, y1⟩ (by omega)) (by first | exact hy.k _ | assumption | rfl | ((try simp only [kM, kTo, kSc, nK]); (repeat rw [up1_n _ _ _ (by omega)]); first | assumption | exact up1_s _ _ _)) rfl (by decide) rfl rfl (Nat.le_of_ble_eq_true rfl) ⟨by decide, by decide⟩ ⟨rfl, rfl⟩ hcs rfl ?_
    rw [if_pos hc, if_pos hc]
    refine w_aload_n (pc2 := 225) C dL_law_224 rfl rfl ?_
    refine w_aload_nx (pc2 := 226) C dL_law_225 rfl rfl ?_
    refine w_iload_n (pc2 := 227) C dL_law_226 rfl rfl ?_
    refine w_iconst (pc2 := 228) (v := iI 1) C dL_law_227 (by decide) rfl ?_
    refine z_iadd (pc2 := 229) C dL_law_228 rfl ?_
    -- at 229: .iaload
    refine w_sld (pc2 := 230) (j := i + 1) C hSc dL_law_229 (by omega) (by omega) rfl ?_
    rw [e1]
    refine w_cVi (pc2 := 233)  C dL_law_230 mb_L_22 mv_X11_end (s_X11_end hy ⟨x1, y1⟩ (by rw [g34, t3]; omega)) (by first | exact hy.k _ | assumption | rfl | ((try simp only [kM, kTo, kSc, nK]); (repeat rw [up1_n _ _ _ (by omega)]); first | assumption | exact up1_s _ _ _)) rfl (by decide) rfl rfl (Nat.le_of_ble_eq_true rfl) ⟨by decide, by decide⟩ ⟨rfl, rfl⟩ hcs rfl ?_
    rw [if_pos hc3, if_pos hc3]
    refine w_icmp_eq (pc2 := 236) (tgt := 762) C dL_law_233 (by decide) rfl (fun _ => ?_) (fun h => absurd ?_ h)
    · have e : a1 = ((a1.toNat : Nat) : Int) := by omega
      have := end_inv hI (a := a1.toNat) (by omega)
      rw [← e] at this
      exact nx.lo this
    · rfl
  · have hc3 : ¬ (0 ≤ a1 ∧ a1 ≤ J 34 4) := by omega
    refine w_aload_n (pc2 := 216) C dL_law_215 rfl rfl ?_
    refine w_aload_nx (pc2 := 217) C dL_law_216 rfl rfl ?_
    refine w_iload_n (pc2 := 218) C dL_law_217 rfl rfl ?_
    refine w_iconst (pc2 := 219) (v := iI 1) C dL_law_218 (by decide) rfl ?_
    refine z_iadd (pc2 := 220) C dL_law_219 rfl ?_
    -- at 220: .iaload
    refine w_sld (pc2 := 221) (j := i + 1) C hSc dL_law_220 (by omega) (by omega) rfl ?_
    rw [e1]
    refine w_cVi (pc2 := 224)  C dL_law_221 mb_L_18 mv_X10_end (s_X10_end hy ⟨x1, y1⟩ (by omega)) (by first | exact hy.k _ | assumption | rfl | ((try simp only [kM, kTo, kSc, nK]); (repeat rw [up1_n _ _ _ (by omega)]); first | assumption | exact up1_s _ _ _)) rfl (by decide) rfl rfl (Nat.le_of_ble_eq_true rfl) ⟨by decide, by decide⟩ ⟨rfl, rfl⟩ hcs rfl ?_
    rw [if_neg hc, if_neg hc]
    refine w_aload_n (pc2 := 225) C dL_law_224 rfl rfl ?_
    refine w_aload_nx (pc2 := 226) C dL_law_225 rfl rfl ?_
    refine w_iload_n (pc2 := 227) C dL_law_226 rfl rfl ?_
    refine w_iconst (pc2 := 228) (v := iI 1) C dL_law_227 (by decide) rfl ?_
    refine z_iadd (pc2 := 229) C dL_law_228 rfl ?_
    -- at 229: .iaload
    refine w_sld (pc2 := 230) (j := i + 1) C hSc dL_law_229 (by omega) (by omega) rfl ?_
    rw [e1]
    refine w_cVi (pc2 := 233)  C dL_law_230 mb_L_22 mv_X11_end (s_X11_end hy ⟨x1, y1⟩ (by omega)) (by first | exact hy.k _ | assumption | rfl | ((try simp only [kM, kTo, kSc, nK]); (repeat rw [up1_n _ _ _ (by omega)]); first | assumption | exact up1_s _ _ _)) rfl (by decide) rfl rfl (Nat.le_of_ble_eq_true rfl) ⟨by decide, by decide⟩ ⟨rfl, rfl⟩ hcs rfl ?_
    rw [if_neg hc3, if_neg hc3]
    refine w_icmp_eq (pc2 := 236) (tgt := 762) C dL_law_233 (by decide) rfl (fun _ => ?_) (fun h => absurd ?_ h)
    · exact nx.lo hI
    · rfl

theorem lc_feed {Γ : Gm} {Q : State → Prop} {cells slots n i b Ls : Nat} {xs : Nat → Int32} {K : wKd} {J : wJn} {L : wLn} {R : wRf} (C : C_L Γ) (hSc : ScA Γ b Ls xs) (hi : i + 6 ≤ Ls) (hc2 : cells + 12 ≤ 600000 ∧ slots + 569 ≤ 7302250) (hI : Inv n K J L R) (nx : Nx Γ Q b i cells slots) : wp Γ cells slots Q 152 [some (.retAddr b), some (.ref 0), some (.ref 34), some (.int (iI (i : Int)))] [] n K (zw J) L R := by
  have hL32 := hSc.2.2.2
  have hcs : cells ≤ room_1.cells ∧ slots ≤ room_1.slots := ⟨by show cells ≤ 600000; omega, by show slots ≤ 7302250; omega⟩
  have hy := hI.1
  obtain ⟨c, m, s, hM, hS⟩ := hI.2.2.2.2.2.1
  obtain ⟨a1, x1, y1, e1⟩ := ix_cases (xs (i + 1))
  obtain ⟨a2, x2, y2, e2⟩ := ix_cases (xs (i + 2))
  obtain ⟨a3, x3, y3, e3⟩ := ix_cases (xs (i + 3))
  obtain ⟨a4, x4, y4, e4⟩ := ix_cases (xs (i + 4))
  obtain ⟨a5, x5, y5, e5⟩ := ix_cases (xs (i + 5))
  obtain ⟨T, t1, t2, t3, t4⟩ := hI.2.2.2.2.1
  by_cases h20 : T + 20 ≤ 1000
  · have hc : J 1 1 + 20 ≤ 1000 := by omega
    refine w_aload_n (pc2 := 153) C dL_law_152 rfl rfl ?_
    refine w_aload_nx (pc2 := 154) C dL_law_153 rfl rfl ?_
    refine w_iload_n (pc2 := 155) C dL_law_154 rfl rfl ?_
    refine w_iconst (pc2 := 156) (v := iI 1) C dL_law_155 (by decide) rfl ?_
    refine z_iadd (pc2 := 157) C dL_law_156 rfl ?_
    -- at 157: .iaload
    refine w_sld (pc2 := 158) (j := i + 1) C hSc dL_law_157 (by omega) (by omega) rfl ?_
    rw [e1]
    refine w_aload_nx (pc2 := 159) C dL_law_158 rfl rfl ?_
    refine w_iload_n (pc2 := 160) C dL_law_159 rfl rfl ?_
    refine w_iconst (pc2 := 161) (v := iI 2) C dL_law_160 (by decide) rfl ?_
    refine z_iadd (pc2 := 162) C dL_law_161 rfl ?_
    -- at 162: .iaload
    refine w_sld (pc2 := 163) (j := i + 2) C hSc dL_law_162 (by omega) (by omega) rfl ?_
    rw [e2]
    refine w_aload_nx (pc2 := 164) C dL_law_163 rfl rfl ?_
    refine w_iload_n (pc2 := 165) C dL_law_164 rfl rfl ?_
    refine w_iconst (pc2 := 166) (v := iI 3) C dL_law_165 (by decide) rfl ?_
    refine z_iadd (pc2 := 167) C dL_law_166 rfl ?_
    -- at 167: .iaload
    refine w_sld (pc2 := 168) (j := i + 3) C hSc dL_law_167 (by omega) (by omega) rfl ?_
    rw [e3]
    refine w_aload_nx (pc2 := 169) C dL_law_168 rfl rfl ?_
    refine w_iload_n (pc2 := 170) C dL_law_169 rfl rfl ?_
    refine w_iconst (pc2 := 171) (v := iI 4) C dL_law_170 (by decide) rfl ?_
    refine z_iadd (pc2 := 172) C dL_law_171 rfl ?_
    -- at 172: .iaload
    refine w_sld (pc2 := 173) (j := i + 4) C hSc dL_law_172 (by omega) (by omega) rfl ?_
    rw [e4]
    refine w_aload_nx (pc2 := 174) C dL_law_173 rfl rfl ?_
    refine w_iload_n (pc2 := 175) C dL_law_174 rfl rfl ?_
    refine w_iconst (pc2 := 176) (v := iI 5) C dL_law_175 (by decide) rfl ?_
    refine z_iadd (pc2 := 177) C dL_law_176 rfl ?_
    -- at 177: .iaload
    refine w_sld (pc2 := 178) (j := i + 5) C hSc dL_law_177 (by omega) (by omega) rfl ?_
    rw [e5]
    refine w_cVi (pc2 := 181)  C dL_law_178 mb_L_13 mv_X10_feed (s_X10_feed hy (by omega)) (by first | exact hy.k _ | assumption | rfl | ((try simp only [kM, kTo, kSc, nK]); (repeat rw [up1_n _ _ _ (by omega)]); first | assumption | exact up1_s _ _ _)) rfl (by decide) rfl rfl (Nat.le_of_ble_eq_true rfl) ⟨by decide, by decide⟩ ⟨rfl, rfl⟩ hcs rfl ?_
    rw [if_pos hc, if_pos hc]
    refine w_aload_n (pc2 := 182) C dL_law_181 rfl rfl ?_
    refine w_aload_nx (pc2 := 183) C dL_law_182 rfl rfl ?_
    refine w_iload_n (pc2 := 184) C dL_law_183 rfl rfl ?_
    refine w_iconst (pc2 := 185) (v := iI 1) C dL_law_184 (by decide) rfl ?_
    refine z_iadd (pc2 := 186) C dL_law_185 rfl ?_
    -- at 186: .iaload
    refine w_sld (pc2 := 187) (j := i + 1) C hSc dL_law_186 (by omega) (by omega) rfl ?_
    rw [e1]
    refine w_aload_nx (pc2 := 188) C dL_law_187 rfl rfl ?_
    refine w_iload_n (pc2 := 189) C dL_law_188 rfl rfl ?_
    refine w_iconst (pc2 := 190) (v := iI 2) C dL_law_189 (by decide) rfl ?_
    refine z_iadd (pc2 := 191) C dL_law_190 rfl ?_
    -- at 191: .iaload
    refine w_sld (pc2 := 192) (j := i + 2) C hSc dL_law_191 (by omega) (by omega) rfl ?_
    rw [e2]
    refine w_aload_nx (pc2 := 193) C dL_law_192 rfl rfl ?_
    refine w_iload_n (pc2 := 194) C dL_law_193 rfl rfl ?_
    refine w_iconst (pc2 := 195) (v := iI 3) C dL_law_194 (by decide) rfl ?_
    refine z_iadd (pc2 := 196) C dL_law_195 rfl ?_
    -- at 196: .iaload
    refine w_sld (pc2 := 197) (j := i + 3) C hSc dL_law_196 (by omega) (by omega) rfl ?_
    rw [e3]
    refine w_aload_nx (pc2 := 198) C dL_law_197 rfl rfl ?_
    refine w_iload_n (pc2 := 199) C dL_law_198 rfl rfl ?_
    refine w_iconst (pc2 := 200) (v := iI 4) C dL_law_199 (by decide) rfl ?_
    refine z_iadd (pc2 := 201) C dL_law_200 rfl ?_
    -- at 201: .iaload
    refine w_sld (pc2 := 202) (j := i + 4) C hSc dL_law_201 (by omega) (by omega) rfl ?_
    rw [e4]
    refine w_aload_nx (pc2 := 203) C dL_law_202 rfl rfl ?_
    refine w_iload_n (pc2 := 204) C dL_law_203 rfl rfl ?_
    refine w_iconst (pc2 := 205) (v := iI 5) C dL_law_204 (by decide) rfl ?_
    refine z_iadd (pc2 := 206) C dL_law_205 rfl ?_
    -- at 206: .iaload
    refine w_sld (pc2 := 207) (j := i + 5) C hSc dL_law_206 (by omega) (by omega) rfl ?_
    rw [e5]
    refine w_cVi (pc2 := 210)  C dL_law_207 mb_L_17 mv_X11_feed (s_X11_feed hy (T := T) (by rw [fed_row (by decide) (by decide)]; exact t3) h20) (by first | exact hy.k _ | assumption | rfl | ((try simp only [kM, kTo, kSc, nK]); (repeat rw [up1_n _ _ _ (by omega)]); first | assumption | exact up1_s _ _ _)) rfl (by decide) rfl rfl (Nat.le_of_ble_eq_true rfl) ⟨by decide, by decide⟩ ⟨rfl, rfl⟩ hcs rfl ?_
    refine w_icmp_eq (pc2 := 213) (tgt := 762) C dL_law_210 (by decide) rfl (fun _ => ?_) (fun h => absurd ?_ h)
    · exact nx.lo (feed_inv hI t2 h20)
    · rw [t2]
  · have hc : ¬ J 1 1 + 20 ≤ 1000 := by omega
    refine w_aload_n (pc2 := 153) C dL_law_152 rfl rfl ?_
    refine w_aload_nx (pc2 := 154) C dL_law_153 rfl rfl ?_
    refine w_iload_n (pc2 := 155) C dL_law_154 rfl rfl ?_
    refine w_iconst (pc2 := 156) (v := iI 1) C dL_law_155 (by decide) rfl ?_
    refine z_iadd (pc2 := 157) C dL_law_156 rfl ?_
    -- at 157: .iaload
    refine w_sld (pc2 := 158) (j := i + 1) C hSc dL_law_157 (by omega) (by omega) rfl ?_
    rw [e1]
    refine w_aload_nx (pc2 := 159) C dL_law_158 rfl rfl ?_
    refine w_iload_n (pc2 := 160) C dL_law_159 rfl rfl ?_
    refine w_iconst (pc2 := 161) (v := iI 2) C dL_law_160 (by decide) rfl ?_
    refine z_iadd (pc2 := 162) C dL_law_161 rfl ?_
    -- at 162: .iaload
    refine w_sld (pc2 := 163) (j := i + 2) C hSc dL_law_162 (by omega) (by omega) rfl ?_
    rw [e2]
    refine w_aload_nx (pc2 := 164) C dL_law_163 rfl rfl ?_
    refine w_iload_n (pc2 := 165) C dL_law_164 rfl rfl ?_
    refine w_iconst (pc2 := 166) (v := iI 3) C dL_law_165 (by decide) rfl ?_
    refine z_iadd (pc2 := 167) C dL_law_166 rfl ?_
    -- at 167: .iaload
    refine w_sld (pc2 := 168) (j := i + 3) C hSc dL_law_167 (by omega) (by omega) rfl ?_
    rw [e3]
    refine w_aload_nx (pc2 := 169) C dL_law_168 rfl rfl ?_
    refine w_iload_n (pc2 := 170) C dL_law_169 rfl rfl ?_
    refine w_iconst (pc2 := 171) (v := iI 4) C dL_law_170 (by decide) rfl ?_
    refine z_iadd (pc2 := 172) C dL_law_171 rfl ?_
    -- at 172: .iaload
    refine w_sld (pc2 := 173) (j := i + 4) C hSc dL_law_172 (by omega) (by omega) rfl ?_
    rw [e4]
    refine w_aload_nx (pc2 := 174) C dL_law_173 rfl rfl ?_
    refine w_iload_n (pc2 := 175) C dL_law_174 rfl rfl ?_
    refine w_iconst (pc2 := 176) (v := iI 5) C dL_law_175 (by decide) rfl ?_
    refine z_iadd (pc2 := 177) C dL_law_176 rfl ?_
    -- at 177: .iaload
    refine w_sld (pc2 := 178) (j := i + 5) C hSc dL_law_177 (by omega) (by omega) rfl ?_
    rw [e5]
    refine w_cVi (pc2 := 181)  C dL_law_178 mb_L_13 mv_X10_feed (s_X10_feed hy (by omega)) (by first | exact hy.k _ | assumption | rfl | ((try simp only [kM, kTo, kSc, nK]); (repeat rw [up1_n _ _ _ (by omega)]); first | assumption | exact up1_s _ _ _)) rfl (by decide) rfl rfl (Nat.le_of_ble_eq_true rfl) ⟨by decide, by decide⟩ ⟨rfl, rfl⟩ hcs rfl ?_
    rw [if_neg hc, if_neg hc]
    refine w_aload_n (pc2 := 182) C dL_law_181 rfl rfl ?_
    refine w_aload_nx (pc2 := 183) C dL_law_182 rfl rfl ?_
    refine w_iload_n (pc2 := 184) C dL_law_183 rfl rfl ?_
    refine w_iconst (pc2 := 185) (v := iI 1) C dL_law_184 (by decide) rfl ?_
    refine z_iadd (pc2 := 186) C dL_law_185 rfl ?_
    -- at 186: .iaload
    refine w_sld (pc2 := 187) (j := i + 1) C hSc dL_law_186 (by omega) (by omega) rfl ?_
    rw [e1]
    refine w_aload_nx (pc2 := 188) C dL_law_187 rfl rfl ?_
    refine w_iload_n (pc2 := 189) C dL_law_188 rfl rfl ?_
    refine w_iconst (pc2 := 190) (v := iI 2) C dL_law_189 (by decide) rfl ?_
    refine z_iadd (pc2 := 191) C dL_law_190 rfl ?_
    -- at 191: .iaload
    refine w_sld (pc2 := 192) (j := i + 2) C hSc dL_law_191 (by omega) (by omega) rfl ?_
    rw [e2]
    refine w_aload_nx (pc2 := 193) C dL_law_192 rfl rfl ?_
    refine w_iload_n (pc2 := 194) C dL_law_193 rfl rfl ?_
    refine w_iconst (pc2 := 195) (v := iI 3) C dL_law_194 (by decide) rfl ?_
    refine z_iadd (pc2 := 196) C dL_law_195 rfl ?_
    -- at 196: .iaload
    refine w_sld (pc2 := 197) (j := i + 3) C hSc dL_law_196 (by omega) (by omega) rfl ?_
    rw [e3]
    refine w_aload_nx (pc2 := 198) C dL_law_197 rfl rfl ?_
    refine w_iload_n (pc2 := 199) C dL_law_198 rfl rfl ?_
    refine w_iconst (pc2 := 200) (v := iI 4) C dL_law_199 (by decide) rfl ?_
    refine z_iadd (pc2 := 201) C dL_law_200 rfl ?_
    -- at 201: .iaload
    refine w_sld (pc2 := 202) (j := i + 4) C hSc dL_law_201 (by omega) (by omega) rfl ?_
    rw [e4]
    refine w_aload_nx (pc2 := 203) C dL_law_202 rfl rfl ?_
    refine w_iload_n (pc2 := 204) C dL_law_203 rfl rfl ?_
    refine w_iconst (pc2 := 205) (v := iI 5) C dL_law_204 (by decide) rfl ?_
    refine z_iadd (pc2 := 206) C dL_law_205 rfl ?_
    -- at 206: .iaload
    refine w_sld (pc2 := 207) (j := i + 5) C hSc dL_law_206 (by omega) (by omega) rfl ?_
    rw [e5]
    refine w_cVi (pc2 := 210)  C dL_law_207 mb_L_17 mv_X11_feed (s_X11_feed0 hy (T := T) t3 t1 (by omega)) (by first | exact hy.k _ | assumption | rfl | ((try simp only [kM, kTo, kSc, nK]); (repeat rw [up1_n _ _ _ (by omega)]); first | assumption | exact up1_s _ _ _)) rfl (by decide) rfl rfl (Nat.le_of_ble_eq_true rfl) ⟨by decide, by decide⟩ ⟨rfl, rfl⟩ hcs rfl ?_
    refine w_icmp_eq (pc2 := 213) (tgt := 762) C dL_law_210 (by decide) rfl (fun _ => ?_) (fun h => absurd ?_ h)
    · exact nx.lo hI
    · rfl

theorem lc_fists {Γ : Gm} {Q : State → Prop} {cells slots n i b Ls : Nat} {xs : Nat → Int32} {K : wKd} {J : wJn} {L : wLn} {R : wRf} (C : C_L Γ) (hSc : ScA Γ b Ls xs) (hi : i + 6 ≤ Ls) (hc2 : cells + 12 ≤ 600000 ∧ slots + 569 ≤ 7302250) (hI : Inv n K J L R) (nx : Nx Γ Q b i cells slots) : wp Γ cells slots Q 330 [some (.retAddr b), some (.ref 0), some (.ref 34), some (.int (iI (i : Int)))] [] n K (zw J) L R := by
  have hL32 := hSc.2.2.2
  have hcs : cells ≤ room_1.cells ∧ slots ≤ room_1.slots := ⟨by show cells ≤ 600000; omega, by show slots ≤ 7302250; omega⟩
  have hy := hI.1
  obtain ⟨c, m, s, hM, hS⟩ := hI.2.2.2.2.2.1
  obtain ⟨a1, x1, y1, e1⟩ := ix_cases (xs (i + 1))
  obtain ⟨a2, x2, y2, e2⟩ := ix_cases (xs (i + 2))
  by_cases hc : 1 ≤ a1 ∧ a1 ≤ 24 ∧ 0 ≤ a2 ∧ a2 ≤ 10000
  · skip
    refine w_aload_n (pc2 := 331) C dL_law_330 rfl rfl ?_
    refine w_aload_nx (pc2 := 332) C dL_law_331 rfl rfl ?_
    refine w_iload_n (pc2 := 333) C dL_law_332 rfl rfl ?_
    refine w_iconst (pc2 := 334) (v := iI 1) C dL_law_333 (by decide) rfl ?_
    refine z_iadd (pc2 := 335) C dL_law_334 rfl ?_
    -- at 335: .iaload
    refine w_sld (pc2 := 336) (j := i + 1) C hSc dL_law_335 (by omega) (by omega) rfl ?_
    rw [e1]
    refine w_aload_nx (pc2 := 337) C dL_law_336 rfl rfl ?_
    refine w_iload_n (pc2 := 338) C dL_law_337 rfl rfl ?_
    refine w_iconst (pc2 := 339) (v := iI 2) C dL_law_338 (by decide) rfl ?_
    refine z_iadd (pc2 := 340) C dL_law_339 rfl ?_
    -- at 340: .iaload
    refine w_sld (pc2 := 341) (j := i + 2) C hSc dL_law_340 (by omega) (by omega) rfl ?_
    rw [e2]
    refine w_cVi (pc2 := 344)  C dL_law_341 mb_L_42 mv_X10_fists (s_X10_fists hy ⟨x1, y1⟩ ⟨x2, y2⟩) (by first | exact hy.k _ | assumption | rfl | ((try simp only [kM, kTo, kSc, nK]); (repeat rw [up1_n _ _ _ (by omega)]); first | assumption | exact up1_s _ _ _)) rfl (by decide) rfl rfl (Nat.le_of_ble_eq_true rfl) ⟨by decide, by decide⟩ ⟨rfl, rfl⟩ hcs rfl ?_
    rw [if_pos hc, if_pos hc]
    refine w_aload_n (pc2 := 345) C dL_law_344 rfl rfl ?_
    refine w_aload_nx (pc2 := 346) C dL_law_345 rfl rfl ?_
    refine w_iload_n (pc2 := 347) C dL_law_346 rfl rfl ?_
    refine w_iconst (pc2 := 348) (v := iI 1) C dL_law_347 (by decide) rfl ?_
    refine z_iadd (pc2 := 349) C dL_law_348 rfl ?_
    -- at 349: .iaload
    refine w_sld (pc2 := 350) (j := i + 1) C hSc dL_law_349 (by omega) (by omega) rfl ?_
    rw [e1]
    refine w_aload_nx (pc2 := 351) C dL_law_350 rfl rfl ?_
    refine w_iload_n (pc2 := 352) C dL_law_351 rfl rfl ?_
    refine w_iconst (pc2 := 353) (v := iI 2) C dL_law_352 (by decide) rfl ?_
    refine z_iadd (pc2 := 354) C dL_law_353 rfl ?_
    -- at 354: .iaload
    refine w_sld (pc2 := 355) (j := i + 2) C hSc dL_law_354 (by omega) (by omega) rfl ?_
    rw [e2]
    refine w_cVi (pc2 := 358)  C dL_law_355 mb_L_46 mv_X11_fists (s_X11_fists hy ⟨x1, y1⟩ ⟨x2, y2⟩) (by first | exact hy.k _ | assumption | rfl | ((try simp only [kM, kTo, kSc, nK]); (repeat rw [up1_n _ _ _ (by omega)]); first | assumption | exact up1_s _ _ _)) rfl (by decide) rfl rfl (Nat.le_of_ble_eq_true rfl) ⟨by decide, by decide⟩ ⟨rfl, rfl⟩ hcs rfl ?_
    rw [if_pos hc, if_pos hc]
    refine w_icmp_eq (pc2 := 361) (tgt := 762) C dL_law_358 (by decide) rfl (fun _ => ?_) (fun h => absurd ?_ h)
    · exact nx.lo (fists_inv hI hc)
    · rfl
  · skip
    refine w_aload_n (pc2 := 331) C dL_law_330 rfl rfl ?_
    refine w_aload_nx (pc2 := 332) C dL_law_331 rfl rfl ?_
    refine w_iload_n (pc2 := 333) C dL_law_332 rfl rfl ?_
    refine w_iconst (pc2 := 334) (v := iI 1) C dL_law_333 (by decide) rfl ?_
    refine z_iadd (pc2 := 335) C dL_law_334 rfl ?_
    -- at 335: .iaload
    refine w_sld (pc2 := 336) (j := i + 1) C hSc dL_law_335 (by omega) (by omega) rfl ?_
    rw [e1]
    refine w_aload_nx (pc2 := 337) C dL_law_336 rfl rfl ?_
    refine w_iload_n (pc2 := 338) C dL_law_337 rfl rfl ?_
    refine w_iconst (pc2 := 339) (v := iI 2) C dL_law_338 (by decide) rfl ?_
    refine z_iadd (pc2 := 340) C dL_law_339 rfl ?_
    -- at 340: .iaload
    refine w_sld (pc2 := 341) (j := i + 2) C hSc dL_law_340 (by omega) (by omega) rfl ?_
    rw [e2]
    refine w_cVi (pc2 := 344)  C dL_law_341 mb_L_42 mv_X10_fists (s_X10_fists hy ⟨x1, y1⟩ ⟨x2, y2⟩) (by first | exact hy.k _ | assumption | rfl | ((try simp only [kM, kTo, kSc, nK]); (repeat rw [up1_n _ _ _ (by omega)]); first | assumption | exact up1_s _ _ _)) rfl (by decide) rfl rfl (Nat.le_of_ble_eq_true rfl) ⟨by decide, by decide⟩ ⟨rfl, rfl⟩ hcs rfl ?_
    rw [if_neg hc, if_neg hc]
    refine w_aload_n (pc2 := 345) C dL_law_344 rfl rfl ?_
    refine w_aload_nx (pc2 := 346) C dL_law_345 rfl rfl ?_
    refine w_iload_n (pc2 := 347) C dL_law_346 rfl rfl ?_
    refine w_iconst (pc2 := 348) (v := iI 1) C dL_law_347 (by decide) rfl ?_
    refine z_iadd (pc2 := 349) C dL_law_348 rfl ?_
    -- at 349: .iaload
    refine w_sld (pc2 := 350) (j := i + 1) C hSc dL_law_349 (by omega) (by omega) rfl ?_
    rw [e1]
    refine w_aload_nx (pc2 := 351) C dL_law_350 rfl rfl ?_
    refine w_iload_n (pc2 := 352) C dL_law_351 rfl rfl ?_
    refine w_iconst (pc2 := 353) (v := iI 2) C dL_law_352 (by decide) rfl ?_
    refine z_iadd (pc2 := 354) C dL_law_353 rfl ?_
    -- at 354: .iaload
    refine w_sld (pc2 := 355) (j := i + 2) C hSc dL_law_354 (by omega) (by omega) rfl ?_
    rw [e2]
    refine w_cVi (pc2 := 358)  C dL_law_355 mb_L_46 mv_X11_fists (s_X11_fists hy ⟨x1, y1⟩ ⟨x2, y2⟩) (by first | exact hy.k _ | assumption | rfl | ((try simp only [kM, kTo, kSc, nK]); (repeat rw [up1_n _ _ _ (by omega)]); first | assumption | exact up1_s _ _ _)) rfl (by decide) rfl rfl (Nat.le_of_ble_eq_true rfl) ⟨by decide, by decide⟩ ⟨rfl, rfl⟩ hcs rfl ?_
    rw [if_neg hc, if_neg hc]
    refine w_icmp_eq (pc2 := 361) (tgt := 762) C dL_law_358 (by decide) rfl (fun _ => ?_) (fun h => absurd ?_ h)
    · exact nx.lo hI
    · rfl

theorem scJ_row {J1 : wJn} {r : Flt ⊕ CS} {x : Nat} (h : 15 ≤ x) : scJ J1 r x = J1 x := by
  rcases r with f | z
  · show up2 (up2 (up2 J1 1 1 0) 11 4 (J1 3 1)) 11 5 (J1 3 2) x = _
    rw [up2_row (by omega), up2_row (by omega), up2_row (by omega)]
  · show up2 (cpSc (up2 (up2 (up2 J1 1 1 0) 11 4 (J1 3 1)) 11 5 (J1 3 2)) 12 4) 0 7 0 x = _
    rw [up2_row (by omega), cpSc_o (by omega), up2_row (by omega), up2_row (by omega), up2_row (by omega)]

theorem lc_score {Γ : Gm} {Q : State → Prop} {cells slots n i b Ls : Nat} {xs : Nat → Int32} {K : wKd} {J : wJn} {L : wLn} {R : wRf} (C : C_L Γ) (hSc : ScA Γ b Ls xs) (hi : i + 6 ≤ Ls) (hc2 : cells + 12 ≤ 600000 ∧ slots + 569 ≤ 7302250) (hI : Inv n K J L R) (nx : Nx Γ Q b i cells slots) : wp Γ cells slots Q 238 [some (.retAddr b), some (.ref 0), some (.ref 34), some (.int (iI (i : Int)))] [] n K (zw J) L R := by
  have hL32 := hSc.2.2.2
  have hcs : cells ≤ room_1.cells ∧ slots ≤ room_1.slots := ⟨by show cells ≤ 600000; omega, by show slots ≤ 7302250; omega⟩
  have hy := hI.1
  obtain ⟨c, m, s, hM, hS⟩ := hI.2.2.2.2.2.1
  obtain ⟨T, t1, t2, t3, t4⟩ := hI.2.2.2.2.1
  have hsg := txF_sg (J := J) t1
  obtain ⟨f, r, f2, r2, hf, hr, hr2, g1, g2⟩ := reads hsg
  refine w_aload_n (pc2 := 239) C dL_law_238 rfl rfl ?_
  -- at 239: .invokevirtual 23
  refine w_gV (pc2 := 242)  C dL_law_239 mb_L_23 mv_X10_score (s_X10_score hy (s := txF J T) (t := T) ⟨t2, hsg, fun p hp => txF_at hp⟩ hf hr) (by first | exact hy.k _ | assumption | rfl | ((try simp only [kM, kTo, kSc, nK]); (repeat rw [up1_n _ _ _ (by omega)]); first | assumption | exact up1_s _ _ _)) rfl (by decide) rfl rfl (Nat.le_of_ble_eq_true rfl) ⟨by decide, by decide⟩ ⟨rfl, rfl⟩ hcs rfl ?_
  rintro r2 n2 K2 I2 L2 R2 ⟨J1, hD, hA⟩
  obtain ⟨d1, d2, d3, d4, d5, d6⟩ := hD
  replace d2 := d2.symm
  replace d3 := d3.symm
  replace d5 := d5.symm
  replace d6 := d6.symm
  subst d1
  subst d2
  subst d3
  subst d4
  subst d5
  subst d6
  refine w_aload_n (pc2 := 243) C dL_law_242 rfl rfl ?_
  -- at 243: .invokevirtual 27
  refine w_gV (pc2 := 246)  C dL_law_243 mb_L_27 mv_X11_score (s_X11_score hy (s := txF J T) (t := T) (by rw [scJ_row (by decide), hA.1 34 (by omega)]; exact t3) hsg (fun p hp => by rw [scJ_row (by decide), hA.1 38 (by omega), txF_at hp]; exact t4 p hp) hr2) (by first | exact hy.k _ | assumption | rfl | ((try simp only [kM, kTo, kSc, nK]); (repeat rw [up1_n _ _ _ (by omega)]); first | assumption | exact up1_s _ _ _)) rfl (by decide) rfl rfl (Nat.le_of_ble_eq_true rfl) ⟨by decide, by decide⟩ ⟨rfl, rfl⟩ hcs rfl ?_
  rintro r2 n2 K2 I2 L2 R2 ⟨J2, hD, hP⟩
  obtain ⟨d1, d2, d3, d4, d5, d6⟩ := hD
  replace d2 := d2.symm
  replace d3 := d3.symm
  replace d5 := d5.symm
  replace d6 := d6.symm
  subst d1
  subst d2
  subst d3
  subst d4
  subst d5
  subst d6
  have hfin := score_inv hI (t := T) hA hP g1 g2 (fun z hz => crun_sto hsg f cs0 z (by rw [← hz]; exact hr) (wf0 T) sto0)
  refine w_icmp_eq (pc2 := 249) (tgt := 762) C dL_law_246 (by decide) rfl (fun _ => ?_) (fun h => absurd ?_ h)
  · exact nx.lo hfin.1
  · show iI (scR r) = iI (rscR r2)
    rw [hfin.2]

end CASES1
