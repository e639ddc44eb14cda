theorem dL_does_0 : decode cL_does 0 = .ok (.iload_n 1, 1) := by decide +kernel
theorem dL_does_1 : decode cL_does 1 = .ok (.iconst 4, 1) := by decide +kernel
theorem dL_does_2 : decode cL_does 2 = .ok (.ishr, 1) := by decide +kernel
theorem dL_does_3 : decode cL_does 3 = .ok (.bipush 6, 2) := by decide +kernel
theorem dL_does_5 : decode cL_does 5 = .ok (.invokestatic 8, 3) := by decide +kernel
theorem dL_does_8 : decode cL_does 8 = .ok (.istore_n 2, 1) := by decide +kernel
theorem dL_does_9 : decode cL_does 9 = .ok (.iload_n 1, 1) := by decide +kernel
theorem dL_does_10 : decode cL_does 10 = .ok (.bipush 15, 2) := by decide +kernel
theorem dL_does_12 : decode cL_does 12 = .ok (.iand, 1) := by decide +kernel
theorem dL_does_13 : decode cL_does 13 = .ok (.tableswitch 272 0 14 #[75, 75, 75, 75, 75, 113, 113, 113, 113, 133, 161, 199, 199, 245, 261], 75) := by decide +kernel
theorem dL_does_88 : decode cL_does 88 = .ok (.aload_n 0, 1) := by decide +kernel
theorem dL_does_89 : decode cL_does 89 = .ok (.iload_n 1, 1) := by decide +kernel
theorem dL_does_90 : decode cL_does 90 = .ok (.iconst 4, 1) := by decide +kernel
theorem dL_does_91 : decode cL_does 91 = .ok (.ishr, 1) := by decide +kernel
theorem dL_does_92 : decode cL_does 92 = .ok (.iload_n 1, 1) := by decide +kernel
theorem dL_does_93 : decode cL_does 93 = .ok (.bipush 11, 2) := by decide +kernel
theorem dL_does_95 : decode cL_does 95 = .ok (.ishr, 1) := by decide +kernel
theorem dL_does_96 : decode cL_does 96 = .ok (.iconst 1, 1) := by decide +kernel
theorem dL_does_97 : decode cL_does 97 = .ok (.iand, 1) := by decide +kernel
theorem dL_does_98 : decode cL_does 98 = .ok (.ifCond .ne 8, 3) := by decide +kernel
theorem dL_does_101 : decode cL_does 101 = .ok (.bipush 10, 2) := by decide +kernel
theorem dL_does_103 : decode cL_does 103 = .ok (.goto 5, 3) := by decide +kernel
theorem dL_does_106 : decode cL_does 106 = .ok (.bipush 100, 2) := by decide +kernel
theorem dL_does_108 : decode cL_does 108 = .ok (.invokestatic 8, 3) := by decide +kernel
theorem dL_does_111 : decode cL_does 111 = .ok (.iconst 1, 1) := by decide +kernel
theorem dL_does_112 : decode cL_does 112 = .ok (.iload_n 1, 1) := by decide +kernel
theorem dL_does_113 : decode cL_does 113 = .ok (.bipush 8, 2) := by decide +kernel
theorem dL_does_115 : decode cL_does 115 = .ok (.ishr, 1) := by decide +kernel
theorem dL_does_116 : decode cL_does 116 = .ok (.bipush 6, 2) := by decide +kernel
theorem dL_does_118 : decode cL_does 118 = .ok (.invokestatic 8, 3) := by decide +kernel
theorem dL_does_121 : decode cL_does 121 = .ok (.iadd, 1) := by decide +kernel
theorem dL_does_122 : decode cL_does 122 = .ok (.invokevirtual 14, 3) := by decide +kernel
theorem dL_does_125 : decode cL_does 125 = .ok (.ireturn, 1) := by decide +kernel
theorem dL_does_126 : decode cL_does 126 = .ok (.aload_n 0, 1) := by decide +kernel
theorem dL_does_127 : decode cL_does 127 = .ok (.iconst 3, 1) := by decide +kernel
theorem dL_does_128 : decode cL_does 128 = .ok (.invokevirtual 19, 3) := by decide +kernel
theorem dL_does_131 : decode cL_does 131 = .ok (.bipush 20, 2) := by decide +kernel
theorem dL_does_133 : decode cL_does 133 = .ok (.if_icmp .ne 7, 3) := by decide +kernel
theorem dL_does_136 : decode cL_does 136 = .ok (.iconst 0, 1) := by decide +kernel
theorem dL_does_137 : decode cL_does 137 = .ok (.goto 8, 3) := by decide +kernel
theorem dL_does_140 : decode cL_does 140 = .ok (.aload_n 0, 1) := by decide +kernel
theorem dL_does_141 : decode cL_does 141 = .ok (.iload_n 2, 1) := by decide +kernel
theorem dL_does_142 : decode cL_does 142 = .ok (.invokevirtual 23, 3) := by decide +kernel
theorem dL_does_145 : decode cL_does 145 = .ok (.ireturn, 1) := by decide +kernel
theorem dL_does_146 : decode cL_does 146 = .ok (.aload_n 0, 1) := by decide +kernel
theorem dL_does_147 : decode cL_does 147 = .ok (.iconst 3, 1) := by decide +kernel
theorem dL_does_148 : decode cL_does 148 = .ok (.invokevirtual 19, 3) := by decide +kernel
theorem dL_does_151 : decode cL_does 151 = .ok (.ifCond .ne 7, 3) := by decide +kernel
theorem dL_does_154 : decode cL_does 154 = .ok (.iconst 0, 1) := by decide +kernel
theorem dL_does_155 : decode cL_does 155 = .ok (.goto 18, 3) := by decide +kernel
theorem dL_does_158 : decode cL_does 158 = .ok (.aload_n 0, 1) := by decide +kernel
theorem dL_does_159 : decode cL_does 159 = .ok (.iload_n 1, 1) := by decide +kernel
theorem dL_does_160 : decode cL_does 160 = .ok (.iconst 4, 1) := by decide +kernel
theorem dL_does_161 : decode cL_does 161 = .ok (.ishr, 1) := by decide +kernel
theorem dL_does_162 : decode cL_does 162 = .ok (.aload_n 0, 1) := by decide +kernel
theorem dL_does_163 : decode cL_does 163 = .ok (.iconst 3, 1) := by decide +kernel
theorem dL_does_164 : decode cL_does 164 = .ok (.invokevirtual 19, 3) := by decide +kernel
theorem dL_does_167 : decode cL_does 167 = .ok (.invokestatic 8, 3) := by decide +kernel
theorem dL_does_170 : decode cL_does 170 = .ok (.invokevirtual 26, 3) := by decide +kernel
theorem dL_does_173 : decode cL_does 173 = .ok (.ireturn, 1) := by decide +kernel
theorem dL_does_174 : decode cL_does 174 = .ok (.aload_n 0, 1) := by decide +kernel
theorem dL_does_175 : decode cL_does 175 = .ok (.iconst 3, 1) := by decide +kernel
theorem dL_does_176 : decode cL_does 176 = .ok (.invokevirtual 19, 3) := by decide +kernel
theorem dL_does_179 : decode cL_does 179 = .ok (.ifCond .eq 13, 3) := by decide +kernel
theorem dL_does_182 : decode cL_does 182 = .ok (.aload_n 0, 1) := by decide +kernel
theorem dL_does_183 : decode cL_does 183 = .ok (.iconst 3, 1) := by decide +kernel
theorem dL_does_184 : decode cL_does 184 = .ok (.invokevirtual 19, 3) := by decide +kernel
theorem dL_does_187 : decode cL_does 187 = .ok (.bipush 20, 2) := by decide +kernel
theorem dL_does_189 : decode cL_does 189 = .ok (.if_icmp .ne 7, 3) := by decide +kernel
theorem dL_does_192 : decode cL_does 192 = .ok (.iconst 0, 1) := by decide +kernel
theorem dL_does_193 : decode cL_does 193 = .ok (.goto 18, 3) := by decide +kernel
theorem dL_does_196 : decode cL_does 196 = .ok (.aload_n 0, 1) := by decide +kernel
theorem dL_does_197 : decode cL_does 197 = .ok (.iload_n 1, 1) := by decide +kernel
theorem dL_does_198 : decode cL_does 198 = .ok (.iconst 4, 1) := by decide +kernel
theorem dL_does_199 : decode cL_does 199 = .ok (.ishr, 1) := by decide +kernel
theorem dL_does_200 : decode cL_does 200 = .ok (.aload_n 0, 1) := by decide +kernel
theorem dL_does_201 : decode cL_does 201 = .ok (.iconst 3, 1) := by decide +kernel
theorem dL_does_202 : decode cL_does 202 = .ok (.invokevirtual 19, 3) := by decide +kernel
theorem dL_does_205 : decode cL_does 205 = .ok (.invokestatic 8, 3) := by decide +kernel
theorem dL_does_208 : decode cL_does 208 = .ok (.invokevirtual 29, 3) := by decide +kernel
theorem dL_does_211 : decode cL_does 211 = .ok (.ireturn, 1) := by decide +kernel
theorem dL_does_212 : decode cL_does 212 = .ok (.aload_n 0, 1) := by decide +kernel
theorem dL_does_213 : decode cL_does 213 = .ok (.iload_n 2, 1) := by decide +kernel
theorem dL_does_214 : decode cL_does 214 = .ok (.iconst 1, 1) := by decide +kernel
theorem dL_does_215 : decode cL_does 215 = .ok (.iload_n 1, 1) := by decide +kernel
theorem dL_does_216 : decode cL_does 216 = .ok (.bipush 6, 2) := by decide +kernel
theorem dL_does_218 : decode cL_does 218 = .ok (.ishr, 1) := by decide +kernel
theorem dL_does_219 : decode cL_does 219 = .ok (.bipush 9, 2) := by decide +kernel
theorem dL_does_221 : decode cL_does 221 = .ok (.invokestatic 8, 3) := by decide +kernel
theorem dL_does_224 : decode cL_does 224 = .ok (.iadd, 1) := by decide +kernel
theorem dL_does_225 : decode cL_does 225 = .ok (.iconst 1, 1) := by decide +kernel
theorem dL_does_226 : decode cL_does 226 = .ok (.iload_n 1, 1) := by decide +kernel
theorem dL_does_227 : decode cL_does 227 = .ok (.bipush 7, 2) := by decide +kernel
theorem dL_does_229 : decode cL_does 229 = .ok (.ishr, 1) := by decide +kernel
theorem dL_does_230 : decode cL_does 230 = .ok (.bipush 50, 2) := by decide +kernel
theorem dL_does_232 : decode cL_does 232 = .ok (.invokestatic 8, 3) := by decide +kernel
theorem dL_does_235 : decode cL_does 235 = .ok (.iadd, 1) := by decide +kernel
theorem dL_does_236 : decode cL_does 236 = .ok (.iload_n 1, 1) := by decide +kernel
theorem dL_does_237 : decode cL_does 237 = .ok (.iconst 5, 1) := by decide +kernel
theorem dL_does_238 : decode cL_does 238 = .ok (.ishr, 1) := by decide +kernel
theorem dL_does_239 : decode cL_does 239 = .ok (.sipush 201, 3) := by decide +kernel
theorem dL_does_242 : decode cL_does 242 = .ok (.invokestatic 8, 3) := by decide +kernel
theorem dL_does_245 : decode cL_does 245 = .ok (.iload_n 1, 1) := by decide +kernel
theorem dL_does_246 : decode cL_does 246 = .ok (.bipush 8, 2) := by decide +kernel
theorem dL_does_248 : decode cL_does 248 = .ok (.ishr, 1) := by decide +kernel
theorem dL_does_249 : decode cL_does 249 = .ok (.bipush 10, 2) := by decide +kernel
theorem dL_does_251 : decode cL_does 251 = .ok (.invokestatic 8, 3) := by decide +kernel
theorem dL_does_254 : decode cL_does 254 = .ok (.invokevirtual 32, 3) := by decide +kernel
theorem dL_does_257 : decode cL_does 257 = .ok (.ireturn, 1) := by decide +kernel
theorem dL_does_258 : decode cL_does 258 = .ok (.aload_n 0, 1) := by decide +kernel
theorem dL_does_259 : decode cL_does 259 = .ok (.iconst 0, 1) := by decide +kernel
theorem dL_does_260 : decode cL_does 260 = .ok (.iconst 4, 1) := by decide +kernel
theorem dL_does_261 : decode cL_does 261 = .ok (.iload_n 1, 1) := by decide +kernel
theorem dL_does_262 : decode cL_does 262 = .ok (.iconst 4, 1) := by decide +kernel
theorem dL_does_263 : decode cL_does 263 = .ok (.ishr, 1) := by decide +kernel
theorem dL_does_264 : decode cL_does 264 = .ok (.bipush 20, 2) := by decide +kernel
theorem dL_does_266 : decode cL_does 266 = .ok (.invokestatic 8, 3) := by decide +kernel
theorem dL_does_269 : decode cL_does 269 = .ok (.iadd, 1) := by decide +kernel
theorem dL_does_270 : decode cL_does 270 = .ok (.invokevirtual 36, 3) := by decide +kernel
theorem dL_does_273 : decode cL_does 273 = .ok (.ireturn, 1) := by decide +kernel
theorem dL_does_274 : decode cL_does 274 = .ok (.aload_n 0, 1) := by decide +kernel
theorem dL_does_275 : decode cL_does 275 = .ok (.iconst 1, 1) := by decide +kernel
theorem dL_does_276 : decode cL_does 276 = .ok (.iload_n 1, 1) := by decide +kernel
theorem dL_does_277 : decode cL_does 277 = .ok (.iconst 4, 1) := by decide +kernel
theorem dL_does_278 : decode cL_does 278 = .ok (.ishr, 1) := by decide +kernel
theorem dL_does_279 : decode cL_does 279 = .ok (.iconst 1, 1) := by decide +kernel
theorem dL_does_280 : decode cL_does 280 = .ok (.iand, 1) := by decide +kernel
theorem dL_does_281 : decode cL_does 281 = .ok (.invokevirtual 36, 3) := by decide +kernel
theorem dL_does_284 : decode cL_does 284 = .ok (.ireturn, 1) := by decide +kernel
theorem dL_does_285 : decode cL_does 285 = .ok (.aload_n 0, 1) := by decide +kernel
theorem dL_does_286 : decode cL_does 286 = .ok (.invokevirtual 39, 3) := by decide +kernel
theorem dL_does_289 : decode cL_does 289 = .ok (.ifCond .lt 7, 3) := by decide +kernel
theorem dL_does_292 : decode cL_does 292 = .ok (.iconst 0, 1) := by decide +kernel
theorem dL_does_293 : decode cL_does 293 = .ok (.goto 4, 3) := by decide +kernel
theorem dL_does_296 : decode cL_does 296 = .ok (.iconst 0, 1) := by decide +kernel
theorem dL_does_297 : decode cL_does 297 = .ok (.ireturn, 1) := by decide +kernel
theorem q_low (l : Launch) (g : GG) (A : Nat → Prop) (M : MM) {x y z : Int32} (hy : ¬ y = 0) (e : loC x y = z) : Met l yL_low (Uw yL_low cL_low 2 (Option.some ClassFile.FieldType.int)) (rmD 0) (PreM [.int x, .int y] g A M) (PosI (fun r M1 => r = z ∧ M1 = M) g A) 0 0 A := by
  subst e
  exact k_L_low l g A M x y hy
theorem nI_bd {k a b : Nat} (h1 : a ≤ k) (h2 : k ≤ b) (hb : b < 2 ^ 31) : (a : Int) ≤ (nI k).toInt ∧ (nI k).toInt ≤ (b : Int) := by
  rw [nI_ti (by omega)]
  omega
theorem and1 (x : Int32) : x &&& nI 1 = 0 ∨ x &&& nI 1 = 1 := by
  have h2 : (x &&& nI 1).toBitVec.toNat = x.toBitVec.toNat % 2 := by
    show (x.toBitVec &&& 1#32).toNat = _
    rw [BitVec.toNat_and]
    exact Nat.and_one_is_mod _
  rcases Nat.mod_two_eq_zero_or_one x.toBitVec.toNat with z | z
  · exact Or.inl (Int32.toBitVec_inj.mp (BitVec.eq_of_toNat_eq (by rw [h2, z]; rfl)))
  · exact Or.inr (Int32.toBitVec_inj.mp (BitVec.eq_of_toNat_eq (by rw [h2, z]; rfl)))
set_option maxHeartbeats 4000000 in
set_option maxRecDepth 100000 in
/-- a change that the script asks for -/
theorem k_L_does (l : Launch) (g : GG) (A : Nat → Prop) (M0 : MM) (X : Nat) (c : CS) (B H T : Nat) (hXS : RXS g A M0 M0 X c) (S : zSI B H T c) (hB9 : 9 ≤ B) (hB : B ≤ 1000) (hH : H ≤ 3900) (hT : T ≤ 900000) (v : Int32) : Met l yL_does (Uw yL_does cL_does 3 (Option.some ClassFile.FieldType.int)) (rmD 7) (PreM [.ref (X), .int (v)] g A M0) (PosI (fun r M1 => ¬ r < 0 ∧ ∃ c1, RXS g A M1 M1 X c1 ∧ zSI (B + 1) (H + 6) (T + 200) c1) g A) 0 0 A := by
  refine mk_Met (own := RL) rfl rfl (by decide) (Nat.le_of_ble_eq_true rfl) ?_
  intro p e s m below meth c ls aa Q haa hQ hx hb hr hlk hml hown hts hK hM hS hl hnm
  obtain ⟨M, hMM⟩ : ∃ M, M = M0 := ⟨_, rfl⟩
  rw [← hMM] at hM hXS
  have ht : ∀ w ∈ lw_good, w.before _ s = true := fun w h => hts w (List.mem_cons_of_mem _ h)
  have hl : lv_has ls 3 [(0, .ref (X)), (1, .int (v))] := hl
  obtain ⟨hCI, ⟨n, h, hhH, hg, P⟩, hHis⟩ := id S
  have hn := P.2.1
  have hh2 := P.2.2.2.1
  refine lv_iload_n hx hb dL_does_0 rfl (lv_at hl 1 rfl) ?_
  refine lv_iconst (v := nI 4) hx hb dL_does_1 (by first | rfl | decide) ?_
  refine lv_ishr hx hb dL_does_2 ?_
  refine lv_bipush (v := nI 6) hx hb dL_does_3 (by first | rfl | decide) ?_
  obtain ⟨q_5, hq_5, e_5⟩ := lo_in ((v) >>> (nI 4)) (m := 6) (by decide) (by decide)
  refine m_callRSI (val := nI q_5) (As := [.int ((v) >>> (nI 4)), .int (nI 6)]) (rest := []) ⟨hx, hb, hml, hown, ht⟩ (q_low l g A M (by decide) e_5) (cwS 2 ht (gUS uw_2004 uw_2005 uw_33 uw_2006) rfl rfl rfl (by decide +kernel) ⟨Nat.le_of_ble_eq_true rfl, Nat.le_of_ble_eq_true rfl⟩) hK hM hS rfl hl.1 rfl (Nat.le_of_ble_eq_true rfl) dL_does_5 ⟨Nat.le_of_ble_eq_true rfl, Nat.le_of_ble_eq_true rfl⟩ (fun H locs hM hS => ?_)
  refine lv_istore_n (lv' := [(2, .int (nI q_5)), (0, .ref (X)), (1, .int (v))]) hx hb dL_does_8 rfl hl (by decide) rfl (fun ls hl => ?_)
  refine lv_iload_n hx hb dL_does_9 rfl (lv_at hl 2 rfl) ?_
  refine lv_bipush (v := nI 15) hx hb dL_does_10 (by first | rfl | decide) ?_
  refine lv_iand hx hb dL_does_12 ?_
  refine lv_topi (fun sv9 e_sv9 => ?_)
  by_cases s_13 : (sv9).toInt < 0 ∨ 14 < (sv9).toInt
  · refine lv_tableOut (tgt := 285) hx hb dL_does_13 s_13 (by decide) ?_
    refine lv_aload_n hx hb dL_does_285 rfl (lv_at hl 1 rfl) ?_
    refine m_callI (As := []) (rest := []) ⟨hx, hb, hml, hown, ht⟩ (q_undo l g A M X hXS hCI ) (cwV 0 ht (gU uw_706 uw_572 uw_573 uw_34 uw_574) rfl rfl rfl (by decide +kernel) ⟨Nat.le_of_ble_eq_true rfl, Nat.le_of_ble_eq_true rfl⟩) hK hM hS (m_recv hK hM hXS.ob.1 hXS.ob.2 rfl) rfl hl.1 rfl (Nat.le_of_ble_eq_true rfl) dL_does_286 ⟨Nat.le_of_ble_eq_true rfl, Nat.le_of_ble_eq_true rfl⟩ (fun r9 M H locs hp hM hS => ?_)
    obtain ⟨e9, hX9⟩ := hp
    have hXS := hX9.at
    have Z := S.undo
    refine lv_if_lt (tgt := 296) hx hb dL_does_289 (by decide) (fun c_289 => ?_) (fun c_289 => ?_)
    · refine lv_iconst (v := nI 0) hx hb dL_does_296 (by first | rfl | decide) ?_
      subst hQ
      exact m_zret hx hb hr (rfl) hlk hK hM hS dL_does_297 (⟨by decide, _, hXS, Z.mono (by omega) (by omega) (by omega)⟩)
    · refine lv_iconst (v := nI 0) hx hb dL_does_292 (by first | rfl | decide) ?_
      refine lv_goto (tgt := 297) hx hb dL_does_293 (by decide) ?_
      subst hQ
      exact m_zret hx hb hr (rfl) hlk hK hM hS dL_does_297 (⟨by decide, _, hXS, Z.mono (by omega) (by omega) (by omega)⟩)
  by_cases s_13_0 : (sv9) = 0
  · refine lv_tableIn (tgt := 88) (off := 75) hx hb dL_does_13 (by rw [s_13_0]; decide) (by rw [s_13_0]; decide) (by rw [s_13_0]; rfl) (by decide) ?_
    refine lv_aload_n hx hb dL_does_88 rfl (lv_at hl 1 rfl) ?_
    refine lv_iload_n hx hb dL_does_89 rfl (lv_at hl 2 rfl) ?_
    refine lv_iconst (v := nI 4) hx hb dL_does_90 (by first | rfl | decide) ?_
    refine lv_ishr hx hb dL_does_91 ?_
    refine lv_iload_n hx hb dL_does_92 rfl (lv_at hl 2 rfl) ?_
    refine lv_bipush (v := nI 11) hx hb dL_does_93 (by first | rfl | decide) ?_
    refine lv_ishr hx hb dL_does_95 ?_
    refine lv_iconst (v := nI 1) hx hb dL_does_96 (by first | rfl | decide) ?_
    refine lv_iand hx hb dL_does_97 ?_
    refine lv_if_ne (tgt := 106) hx hb dL_does_98 (by decide) (fun c_98 => ?_) (fun c_98 => ?_)
    · refine lv_bipush (v := nI 100) hx hb dL_does_106 (by first | rfl | decide) ?_
      obtain ⟨q_108, hq_108, e_108⟩ := lo_in ((v) >>> (nI 4)) (m := 100) (by decide) (by decide)
      refine m_callRSI (val := nI q_108) (As := [.int ((v) >>> (nI 4)), .int (nI 100)]) (rest := [.ref (X)]) ⟨hx, hb, hml, hown, ht⟩ (q_low l g A M (by decide) e_108) (cwS 2 ht (gUS uw_2004 uw_2005 uw_33 uw_2006) rfl rfl rfl (by decide +kernel) ⟨Nat.le_of_ble_eq_true rfl, Nat.le_of_ble_eq_true rfl⟩) hK hM hS rfl hl.1 rfl (Nat.le_of_ble_eq_true rfl) dL_does_108 ⟨Nat.le_of_ble_eq_true rfl, Nat.le_of_ble_eq_true rfl⟩ (fun H locs hM hS => ?_)
      refine lv_iconst (v := nI 1) hx hb dL_does_111 (by first | rfl | decide) ?_
      refine lv_iload_n hx hb dL_does_112 rfl (lv_at hl 2 rfl) ?_
      refine lv_bipush (v := nI 8) hx hb dL_does_113 (by first | rfl | decide) ?_
      refine lv_ishr hx hb dL_does_115 ?_
      refine lv_bipush (v := nI 6) hx hb dL_does_116 (by first | rfl | decide) ?_
      obtain ⟨q_118, hq_118, e_118⟩ := lo_in ((v) >>> (nI 8)) (m := 6) (by decide) (by decide)
      refine m_callRSI (val := nI q_118) (As := [.int ((v) >>> (nI 8)), .int (nI 6)]) (rest := [.int (nI 1), .int (nI q_108), .ref (X)]) ⟨hx, hb, hml, hown, ht⟩ (q_low l g A M (by decide) e_118) (cwS 2 ht (gUS uw_2004 uw_2005 uw_33 uw_2006) rfl rfl rfl (by decide +kernel) ⟨Nat.le_of_ble_eq_true rfl, Nat.le_of_ble_eq_true rfl⟩) hK hM hS rfl hl.1 rfl (Nat.le_of_ble_eq_true rfl) dL_does_118 ⟨Nat.le_of_ble_eq_true rfl, Nat.le_of_ble_eq_true rfl⟩ (fun H locs hM hS => ?_)
      refine lv_iadd hx hb dL_does_121 ?_
      rw [nI_add (1) (q_118)]
      refine m_callI (As := [.int (nI q_108), .int (nI (1 + q_118))]) (rest := []) ⟨hx, hb, hml, hown, ht⟩ (q_rain l g A M X hXS hCI (y := q_108) (q := 1 + q_118) (by omega) (by omega) (by omega) hh2 (by omega)) (cwV 2 ht (gU uw_2011 uw_348 uw_349 uw_34 uw_350) rfl rfl rfl (by decide +kernel) ⟨Nat.le_of_ble_eq_true rfl, Nat.le_of_ble_eq_true rfl⟩) hK hM hS (m_recv hK hM hXS.ob.1 hXS.ob.2 rfl) rfl hl.1 rfl (Nat.le_of_ble_eq_true rfl) dL_does_122 ⟨Nat.le_of_ble_eq_true rfl, Nat.le_of_ble_eq_true rfl⟩ (fun r9 M H locs hp hM hS => ?_)
      obtain ⟨e9, hX9⟩ := hp
      have hXS := hX9.at
      have Z := S.rain P hhH hg (y := q_108) (q := 1 + q_118) (by omega) (by omega) (by omega) (by omega) (by omega)
      subst hQ
      exact m_zret hx hb hr (rfl) hlk hK hM hS dL_does_125 (⟨by rw [e9]; exact Z.2.2, _, hXS, Z.1.mono (by omega) (by omega) (by omega)⟩)
    · refine lv_bipush (v := nI 10) hx hb dL_does_101 (by first | rfl | decide) ?_
      refine lv_goto (tgt := 108) hx hb dL_does_103 (by decide) ?_
      obtain ⟨q_108, hq_108, e_108⟩ := lo_in ((v) >>> (nI 4)) (m := 10) (by decide) (by decide)
      refine m_callRSI (val := nI q_108) (As := [.int ((v) >>> (nI 4)), .int (nI 10)]) (rest := [.ref (X)]) ⟨hx, hb, hml, hown, ht⟩ (q_low l g A M (by decide) e_108) (cwS 2 ht (gUS uw_2004 uw_2005 uw_33 uw_2006) rfl rfl rfl (by decide +kernel) ⟨Nat.le_of_ble_eq_true rfl, Nat.le_of_ble_eq_true rfl⟩) hK hM hS rfl hl.1 rfl (Nat.le_of_ble_eq_true rfl) dL_does_108 ⟨Nat.le_of_ble_eq_true rfl, Nat.le_of_ble_eq_true rfl⟩ (fun H locs hM hS => ?_)
      refine lv_iconst (v := nI 1) hx hb dL_does_111 (by first | rfl | decide) ?_
      refine lv_iload_n hx hb dL_does_112 rfl (lv_at hl 2 rfl) ?_
      refine lv_bipush (v := nI 8) hx hb dL_does_113 (by first | rfl | decide) ?_
      refine lv_ishr hx hb dL_does_115 ?_
      refine lv_bipush (v := nI 6) hx hb dL_does_116 (by first | rfl | decide) ?_
      obtain ⟨q_118, hq_118, e_118⟩ := lo_in ((v) >>> (nI 8)) (m := 6) (by decide) (by decide)
      refine m_callRSI (val := nI q_118) (As := [.int ((v) >>> (nI 8)), .int (nI 6)]) (rest := [.int (nI 1), .int (nI q_108), .ref (X)]) ⟨hx, hb, hml, hown, ht⟩ (q_low l g A M (by decide) e_118) (cwS 2 ht (gUS uw_2004 uw_2005 uw_33 uw_2006) rfl rfl rfl (by decide +kernel) ⟨Nat.le_of_ble_eq_true rfl, Nat.le_of_ble_eq_true rfl⟩) hK hM hS rfl hl.1 rfl (Nat.le_of_ble_eq_true rfl) dL_does_118 ⟨Nat.le_of_ble_eq_true rfl, Nat.le_of_ble_eq_true rfl⟩ (fun H locs hM hS => ?_)
      refine lv_iadd hx hb dL_does_121 ?_
      rw [nI_add (1) (q_118)]
      refine m_callI (As := [.int (nI q_108), .int (nI (1 + q_118))]) (rest := []) ⟨hx, hb, hml, hown, ht⟩ (q_rain l g A M X hXS hCI (y := q_108) (q := 1 + q_118) (by omega) (by omega) (by omega) hh2 (by omega)) (cwV 2 ht (gU uw_2011 uw_348 uw_349 uw_34 uw_350) rfl rfl rfl (by decide +kernel) ⟨Nat.le_of_ble_eq_true rfl, Nat.le_of_ble_eq_true rfl⟩) hK hM hS (m_recv hK hM hXS.ob.1 hXS.ob.2 rfl) rfl hl.1 rfl (Nat.le_of_ble_eq_true rfl) dL_does_122 ⟨Nat.le_of_ble_eq_true rfl, Nat.le_of_ble_eq_true rfl⟩ (fun r9 M H locs hp hM hS => ?_)
      obtain ⟨e9, hX9⟩ := hp
      have hXS := hX9.at
      have Z := S.rain P hhH hg (y := q_108) (q := 1 + q_118) (by omega) (by omega) (by omega) (by omega) (by omega)
      subst hQ
      exact m_zret hx hb hr (rfl) hlk hK hM hS dL_does_125 (⟨by rw [e9]; exact Z.2.2, _, hXS, Z.1.mono (by omega) (by omega) (by omega)⟩)
  by_cases s_13_1 : (sv9) = 1
  · refine lv_tableIn (tgt := 88) (off := 75) hx hb dL_does_13 (by rw [s_13_1]; decide) (by rw [s_13_1]; decide) (by rw [s_13_1]; rfl) (by decide) ?_
    refine lv_aload_n hx hb dL_does_88 rfl (lv_at hl 1 rfl) ?_
    refine lv_iload_n hx hb dL_does_89 rfl (lv_at hl 2 rfl) ?_
    refine lv_iconst (v := nI 4) hx hb dL_does_90 (by first | rfl | decide) ?_
    refine lv_ishr hx hb dL_does_91 ?_
    refine lv_iload_n hx hb dL_does_92 rfl (lv_at hl 2 rfl) ?_
    refine lv_bipush (v := nI 11) hx hb dL_does_93 (by first | rfl | decide) ?_
    refine lv_ishr hx hb dL_does_95 ?_
    refine lv_iconst (v := nI 1) hx hb dL_does_96 (by first | rfl | decide) ?_
    refine lv_iand hx hb dL_does_97 ?_
    refine lv_if_ne (tgt := 106) hx hb dL_does_98 (by decide) (fun c_98 => ?_) (fun c_98 => ?_)
    · refine lv_bipush (v := nI 100) hx hb dL_does_106 (by first | rfl | decide) ?_
      obtain ⟨q_108, hq_108, e_108⟩ := lo_in ((v) >>> (nI 4)) (m := 100) (by decide) (by decide)
      refine m_callRSI (val := nI q_108) (As := [.int ((v) >>> (nI 4)), .int (nI 100)]) (rest := [.ref (X)]) ⟨hx, hb, hml, hown, ht⟩ (q_low l g A M (by decide) e_108) (cwS 2 ht (gUS uw_2004 uw_2005 uw_33 uw_2006) rfl rfl rfl (by decide +kernel) ⟨Nat.le_of_ble_eq_true rfl, Nat.le_of_ble_eq_true rfl⟩) hK hM hS rfl hl.1 rfl (Nat.le_of_ble_eq_true rfl) dL_does_108 ⟨Nat.le_of_ble_eq_true rfl, Nat.le_of_ble_eq_true rfl⟩ (fun H locs hM hS => ?_)
      refine lv_iconst (v := nI 1) hx hb dL_does_111 (by first | rfl | decide) ?_
      refine lv_iload_n hx hb dL_does_112 rfl (lv_at hl 2 rfl) ?_
      refine lv_bipush (v := nI 8) hx hb dL_does_113 (by first | rfl | decide) ?_
      refine lv_ishr hx hb dL_does_115 ?_
      refine lv_bipush (v := nI 6) hx hb dL_does_116 (by first | rfl | decide) ?_
      obtain ⟨q_118, hq_118, e_118⟩ := lo_in ((v) >>> (nI 8)) (m := 6) (by decide) (by decide)
      refine m_callRSI (val := nI q_118) (As := [.int ((v) >>> (nI 8)), .int (nI 6)]) (rest := [.int (nI 1), .int (nI q_108), .ref (X)]) ⟨hx, hb, hml, hown, ht⟩ (q_low l g A M (by decide) e_118) (cwS 2 ht (gUS uw_2004 uw_2005 uw_33 uw_2006) rfl rfl rfl (by decide +kernel) ⟨Nat.le_of_ble_eq_true rfl, Nat.le_of_ble_eq_true rfl⟩) hK hM hS rfl hl.1 rfl (Nat.le_of_ble_eq_true rfl) dL_does_118 ⟨Nat.le_of_ble_eq_true rfl, Nat.le_of_ble_eq_true rfl⟩ (fun H locs hM hS => ?_)
      refine lv_iadd hx hb dL_does_121 ?_
      rw [nI_add (1) (q_118)]
      refine m_callI (As := [.int (nI q_108), .int (nI (1 + q_118))]) (rest := []) ⟨hx, hb, hml, hown, ht⟩ (q_rain l g A M X hXS hCI (y := q_108) (q := 1 + q_118) (by omega) (by omega) (by omega) hh2 (by omega)) (cwV 2 ht (gU uw_2011 uw_348 uw_349 uw_34 uw_350) rfl rfl rfl (by decide +kernel) ⟨Nat.le_of_ble_eq_true rfl, Nat.le_of_ble_eq_true rfl⟩) hK hM hS (m_recv hK hM hXS.ob.1 hXS.ob.2 rfl) rfl hl.1 rfl (Nat.le_of_ble_eq_true rfl) dL_does_122 ⟨Nat.le_of_ble_eq_true rfl, Nat.le_of_ble_eq_true rfl⟩ (fun r9 M H locs hp hM hS => ?_)
      obtain ⟨e9, hX9⟩ := hp
      have hXS := hX9.at
      have Z := S.rain P hhH hg (y := q_108) (q := 1 + q_118) (by omega) (by omega) (by omega) (by omega) (by omega)
      subst hQ
      exact m_zret hx hb hr (rfl) hlk hK hM hS dL_does_125 (⟨by rw [e9]; exact Z.2.2, _, hXS, Z.1.mono (by omega) (by omega) (by omega)⟩)
    · refine lv_bipush (v := nI 10) hx hb dL_does_101 (by first | rfl | decide) ?_
      refine lv_goto (tgt := 108) hx hb dL_does_103 (by decide) ?_
      obtain ⟨q_108, hq_108, e_108⟩ := lo_in ((v) >>> (nI 4)) (m := 10) (by decide) (by decide)
      refine m_callRSI (val := nI q_108) (As := [.int ((v) >>> (nI 4)), .int (nI 10)]) (rest := [.ref (X)]) ⟨hx, hb, hml, hown, ht⟩ (q_low l g A M (by decide) e_108) (cwS 2 ht (gUS uw_2004 uw_2005 uw_33 uw_2006) rfl rfl rfl (by decide +kernel) ⟨Nat.le_of_ble_eq_true rfl, Nat.le_of_ble_eq_true rfl⟩) hK hM hS rfl hl.1 rfl (Nat.le_of_ble_eq_true rfl) dL_does_108 ⟨Nat.le_of_ble_eq_true rfl, Nat.le_of_ble_eq_true rfl⟩ (fun H locs hM hS => ?_)
      refine lv_iconst (v := nI 1) hx hb dL_does_111 (by first | rfl | decide) ?_
      refine lv_iload_n hx hb dL_does_112 rfl (lv_at hl 2 rfl) ?_
      refine lv_bipush (v := nI 8) hx hb dL_does_113 (by first | rfl | decide) ?_
      refine lv_ishr hx hb dL_does_115 ?_
      refine lv_bipush (v := nI 6) hx hb dL_does_116 (by first | rfl | decide) ?_
      obtain ⟨q_118, hq_118, e_118⟩ := lo_in ((v) >>> (nI 8)) (m := 6) (by decide) (by decide)
      refine m_callRSI (val := nI q_118) (As := [.int ((v) >>> (nI 8)), .int (nI 6)]) (rest := [.int (nI 1), .int (nI q_108), .ref (X)]) ⟨hx, hb, hml, hown, ht⟩ (q_low l g A M (by decide) e_118) (cwS 2 ht (gUS uw_2004 uw_2005 uw_33 uw_2006) rfl rfl rfl (by decide +kernel) ⟨Nat.le_of_ble_eq_true rfl, Nat.le_of_ble_eq_true rfl⟩) hK hM hS rfl hl.1 rfl (Nat.le_of_ble_eq_true rfl) dL_does_118 ⟨Nat.le_of_ble_eq_true rfl, Nat.le_of_ble_eq_true rfl⟩ (fun H locs hM hS => ?_)
      refine lv_iadd hx hb dL_does_121 ?_
      rw [nI_add (1) (q_118)]
      refine m_callI (As := [.int (nI q_108), .int (nI (1 + q_118))]) (rest := []) ⟨hx, hb, hml, hown, ht⟩ (q_rain l g A M X hXS hCI (y := q_108) (q := 1 + q_118) (by omega) (by omega) (by omega) hh2 (by omega)) (cwV 2 ht (gU uw_2011 uw_348 uw_349 uw_34 uw_350) rfl rfl rfl (by decide +kernel) ⟨Nat.le_of_ble_eq_true rfl, Nat.le_of_ble_eq_true rfl⟩) hK hM hS (m_recv hK hM hXS.ob.1 hXS.ob.2 rfl) rfl hl.1 rfl (Nat.le_of_ble_eq_true rfl) dL_does_122 ⟨Nat.le_of_ble_eq_true rfl, Nat.le_of_ble_eq_true rfl⟩ (fun r9 M H locs hp hM hS => ?_)
      obtain ⟨e9, hX9⟩ := hp
      have hXS := hX9.at
      have Z := S.rain P hhH hg (y := q_108) (q := 1 + q_118) (by omega) (by omega) (by omega) (by omega) (by omega)
      subst hQ
      exact m_zret hx hb hr (rfl) hlk hK hM hS dL_does_125 (⟨by rw [e9]; exact Z.2.2, _, hXS, Z.1.mono (by omega) (by omega) (by omega)⟩)
  by_cases s_13_2 : (sv9) = 2
  · refine lv_tableIn (tgt := 88) (off := 75) hx hb dL_does_13 (by rw [s_13_2]; decide) (by rw [s_13_2]; decide) (by rw [s_13_2]; rfl) (by decide) ?_
    refine lv_aload_n hx hb dL_does_88 rfl (lv_at hl 1 rfl) ?_
    refine lv_iload_n hx hb dL_does_89 rfl (lv_at hl 2 rfl) ?_
    refine lv_iconst (v := nI 4) hx hb dL_does_90 (by first | rfl | decide) ?_
    refine lv_ishr hx hb dL_does_91 ?_
    refine lv_iload_n hx hb dL_does_92 rfl (lv_at hl 2 rfl) ?_
    refine lv_bipush (v := nI 11) hx hb dL_does_93 (by first | rfl | decide) ?_
    refine lv_ishr hx hb dL_does_95 ?_
    refine lv_iconst (v := nI 1) hx hb dL_does_96 (by first | rfl | decide) ?_
    refine lv_iand hx hb dL_does_97 ?_
    refine lv_if_ne (tgt := 106) hx hb dL_does_98 (by decide) (fun c_98 => ?_) (fun c_98 => ?_)
    · refine lv_bipush (v := nI 100) hx hb dL_does_106 (by first | rfl | decide) ?_
      obtain ⟨q_108, hq_108, e_108⟩ := lo_in ((v) >>> (nI 4)) (m := 100) (by decide) (by decide)
      refine m_callRSI (val := nI q_108) (As := [.int ((v) >>> (nI 4)), .int (nI 100)]) (rest := [.ref (X)]) ⟨hx, hb, hml, hown, ht⟩ (q_low l g A M (by decide) e_108) (cwS 2 ht (gUS uw_2004 uw_2005 uw_33 uw_2006) rfl rfl rfl (by decide +kernel) ⟨Nat.le_of_ble_eq_true rfl, Nat.le_of_ble_eq_true rfl⟩) hK hM hS rfl hl.1 rfl (Nat.le_of_ble_eq_true rfl) dL_does_108 ⟨Nat.le_of_ble_eq_true rfl, Nat.le_of_ble_eq_true rfl⟩ (fun H locs hM hS => ?_)
      refine lv_iconst (v := nI 1) hx hb dL_does_111 (by first | rfl | decide) ?_
      refine lv_iload_n hx hb dL_does_112 rfl (lv_at hl 2 rfl) ?_
      refine lv_bipush (v := nI 8) hx hb dL_does_113 (by first | rfl | decide) ?_
      refine lv_ishr hx hb dL_does_115 ?_
      refine lv_bipush (v := nI 6) hx hb dL_does_116 (by first | rfl | decide) ?_
      obtain ⟨q_118, hq_118, e_118⟩ := lo_in ((v) >>> (nI 8)) (m := 6) (by decide) (by decide)
      refine m_callRSI (val := nI q_118) (As := [.int ((v) >>> (nI 8)), .int (nI 6)]) (rest := [.int (nI 1), .int (nI q_108), .ref (X)]) ⟨hx, hb, hml, hown, ht⟩ (q_low l g A M (by decide) e_118) (cwS 2 ht (gUS uw_2004 uw_2005 uw_33 uw_2006) rfl rfl rfl (by decide +kernel) ⟨Nat.le_of_ble_eq_true rfl, Nat.le_of_ble_eq_true rfl⟩) hK hM hS rfl hl.1 rfl (Nat.le_of_ble_eq_true rfl) dL_does_118 ⟨Nat.le_of_ble_eq_true rfl, Nat.le_of_ble_eq_true rfl⟩ (fun H locs hM hS => ?_)
      refine lv_iadd hx hb dL_does_121 ?_
      rw [nI_add (1) (q_118)]
      refine m_callI (As := [.int (nI q_108), .int (nI (1 + q_118))]) (rest := []) ⟨hx, hb, hml, hown, ht⟩ (q_rain l g A M X hXS hCI (y := q_108) (q := 1 + q_118) (by omega) (by omega) (by omega) hh2 (by omega)) (cwV 2 ht (gU uw_2011 uw_348 uw_349 uw_34 uw_350) rfl rfl rfl (by decide +kernel) ⟨Nat.le_of_ble_eq_true rfl, Nat.le_of_ble_eq_true rfl⟩) hK hM hS (m_recv hK hM hXS.ob.1 hXS.ob.2 rfl) rfl hl.1 rfl (Nat.le_of_ble_eq_true rfl) dL_does_122 ⟨Nat.le_of_ble_eq_true rfl, Nat.le_of_ble_eq_true rfl⟩ (fun r9 M H locs hp hM hS => ?_)
      obtain ⟨e9, hX9⟩ := hp
      have hXS := hX9.at
      have Z := S.rain P hhH hg (y := q_108) (q := 1 + q_118) (by omega) (by omega) (by omega) (by omega) (by omega)
      subst hQ
      exact m_zret hx hb hr (rfl) hlk hK hM hS dL_does_125 (⟨by rw [e9]; exact Z.2.2, _, hXS, Z.1.mono (by omega) (by omega) (by omega)⟩)
    · refine lv_bipush (v := nI 10) hx hb dL_does_101 (by first | rfl | decide) ?_
      refine lv_goto (tgt := 108) hx hb dL_does_103 (by decide) ?_
      obtain ⟨q_108, hq_108, e_108⟩ := lo_in ((v) >>> (nI 4)) (m := 10) (by decide) (by decide)
      refine m_callRSI (val := nI q_108) (As := [.int ((v) >>> (nI 4)), .int (nI 10)]) (rest := [.ref (X)]) ⟨hx, hb, hml, hown, ht⟩ (q_low l g A M (by decide) e_108) (cwS 2 ht (gUS uw_2004 uw_2005 uw_33 uw_2006) rfl rfl rfl (by decide +kernel) ⟨Nat.le_of_ble_eq_true rfl, Nat.le_of_ble_eq_true rfl⟩) hK hM hS rfl hl.1 rfl (Nat.le_of_ble_eq_true rfl) dL_does_108 ⟨Nat.le_of_ble_eq_true rfl, Nat.le_of_ble_eq_true rfl⟩ (fun H locs hM hS => ?_)
      refine lv_iconst (v := nI 1) hx hb dL_does_111 (by first | rfl | decide) ?_
      refine lv_iload_n hx hb dL_does_112 rfl (lv_at hl 2 rfl) ?_
      refine lv_bipush (v := nI 8) hx hb dL_does_113 (by first | rfl | decide) ?_
      refine lv_ishr hx hb dL_does_115 ?_
      refine lv_bipush (v := nI 6) hx hb dL_does_116 (by first | rfl | decide) ?_
      obtain ⟨q_118, hq_118, e_118⟩ := lo_in ((v) >>> (nI 8)) (m := 6) (by decide) (by decide)
      refine m_callRSI (val := nI q_118) (As := [.int ((v) >>> (nI 8)), .int (nI 6)]) (rest := [.int (nI 1), .int (nI q_108), .ref (X)]) ⟨hx, hb, hml, hown, ht⟩ (q_low l g A M (by decide) e_118) (cwS 2 ht (gUS uw_2004 uw_2005 uw_33 uw_2006) rfl rfl rfl (by decide +kernel) ⟨Nat.le_of_ble_eq_true rfl, Nat.le_of_ble_eq_true rfl⟩) hK hM hS rfl hl.1 rfl (Nat.le_of_ble_eq_true rfl) dL_does_118 ⟨Nat.le_of_ble_eq_true rfl, Nat.le_of_ble_eq_true rfl⟩ (fun H locs hM hS => ?_)
      refine lv_iadd hx hb dL_does_121 ?_
      rw [nI_add (1) (q_118)]
      refine m_callI (As := [.int (nI q_108), .int (nI (1 + q_118))]) (rest := []) ⟨hx, hb, hml, hown, ht⟩ (q_rain l g A M X hXS hCI (y := q_108) (q := 1 + q_118) (by omega) (by omega) (by omega) hh2 (by omega)) (cwV 2 ht (gU uw_2011 uw_348 uw_349 uw_34 uw_350) rfl rfl rfl (by decide +kernel) ⟨Nat.le_of_ble_eq_true rfl, Nat.le_of_ble_eq_true rfl⟩) hK hM hS (m_recv hK hM hXS.ob.1 hXS.ob.2 rfl) rfl hl.1 rfl (Nat.le_of_ble_eq_true rfl) dL_does_122 ⟨Nat.le_of_ble_eq_true rfl, Nat.le_of_ble_eq_true rfl⟩ (fun r9 M H locs hp hM hS => ?_)
      obtain ⟨e9, hX9⟩ := hp
      have hXS := hX9.at
      have Z := S.rain P hhH hg (y := q_108) (q := 1 + q_118) (by omega) (by omega) (by omega) (by omega) (by omega)
      subst hQ
      exact m_zret hx hb hr (rfl) hlk hK hM hS dL_does_125 (⟨by rw [e9]; exact Z.2.2, _, hXS, Z.1.mono (by omega) (by omega) (by omega)⟩)
  by_cases s_13_3 : (sv9) = 3
  · refine lv_tableIn (tgt := 88) (off := 75) hx hb dL_does_13 (by rw [s_13_3]; decide) (by rw [s_13_3]; decide) (by rw [s_13_3]; rfl) (by decide) ?_
    refine lv_aload_n hx hb dL_does_88 rfl (lv_at hl 1 rfl) ?_
    refine lv_iload_n hx hb dL_does_89 rfl (lv_at hl 2 rfl) ?_
    refine lv_iconst (v := nI 4) hx hb dL_does_90 (by first | rfl | decide) ?_
    refine lv_ishr hx hb dL_does_91 ?_
    refine lv_iload_n hx hb dL_does_92 rfl (lv_at hl 2 rfl) ?_
    refine lv_bipush (v := nI 11) hx hb dL_does_93 (by first | rfl | decide) ?_
    refine lv_ishr hx hb dL_does_95 ?_
    refine lv_iconst (v := nI 1) hx hb dL_does_96 (by first | rfl | decide) ?_
    refine lv_iand hx hb dL_does_97 ?_
    refine lv_if_ne (tgt := 106) hx hb dL_does_98 (by decide) (fun c_98 => ?_) (fun c_98 => ?_)
    · refine lv_bipush (v := nI 100) hx hb dL_does_106 (by first | rfl | decide) ?_
      obtain ⟨q_108, hq_108, e_108⟩ := lo_in ((v) >>> (nI 4)) (m := 100) (by decide) (by decide)
      refine m_callRSI (val := nI q_108) (As := [.int ((v) >>> (nI 4)), .int (nI 100)]) (rest := [.ref (X)]) ⟨hx, hb, hml, hown, ht⟩ (q_low l g A M (by decide) e_108) (cwS 2 ht (gUS uw_2004 uw_2005 uw_33 uw_2006) rfl rfl rfl (by decide +kernel) ⟨Nat.le_of_ble_eq_true rfl, Nat.le_of_ble_eq_true rfl⟩) hK hM hS rfl hl.1 rfl (Nat.le_of_ble_eq_true rfl) dL_does_108 ⟨Nat.le_of_ble_eq_true rfl, Nat.le_of_ble_eq_true rfl⟩ (fun H locs hM hS => ?_)
      refine lv_iconst (v := nI 1) hx hb dL_does_111 (by first | rfl | decide) ?_
      refine lv_iload_n hx hb dL_does_112 rfl (lv_at hl 2 rfl) ?_
      refine lv_bipush (v := nI 8) hx hb dL_does_113 (by first | rfl | decide) ?_
      refine lv_ishr hx hb dL_does_115 ?_
      refine lv_bipush (v := nI 6) hx hb dL_does_116 (by first | rfl | decide) ?_
      obtain ⟨q_118, hq_118, e_118⟩ := lo_in ((v) >>> (nI 8)) (m := 6) (by decide) (by decide)
      refine m_callRSI (val := nI q_118) (As := [.int ((v) >>> (nI 8)), .int (nI 6)]) (rest := [.int (nI 1), .int (nI q_108), .ref (X)]) ⟨hx, hb, hml, hown, ht⟩ (q_low l g A M (by decide) e_118) (cwS 2 ht (gUS uw_2004 uw_2005 uw_33 uw_2006) rfl rfl rfl (by decide +kernel) ⟨Nat.le_of_ble_eq_true rfl, Nat.le_of_ble_eq_true rfl⟩) hK hM hS rfl hl.1 rfl (Nat.le_of_ble_eq_true rfl) dL_does_118 ⟨Nat.le_of_ble_eq_true rfl, Nat.le_of_ble_eq_true rfl⟩ (fun H locs hM hS => ?_)
      refine lv_iadd hx hb dL_does_121 ?_
      rw [nI_add (1) (q_118)]
      refine m_callI (As := [.int (nI q_108), .int (nI (1 + q_118))]) (rest := []) ⟨hx, hb, hml, hown, ht⟩ (q_rain l g A M X hXS hCI (y := q_108) (q := 1 + q_118) (by omega) (by omega) (by omega) hh2 (by omega)) (cwV 2 ht (gU uw_2011 uw_348 uw_349 uw_34 uw_350) rfl rfl rfl (by decide +kernel) ⟨Nat.le_of_ble_eq_true rfl, Nat.le_of_ble_eq_true rfl⟩) hK hM hS (m_recv hK hM hXS.ob.1 hXS.ob.2 rfl) rfl hl.1 rfl (Nat.le_of_ble_eq_true rfl) dL_does_122 ⟨Nat.le_of_ble_eq_true rfl, Nat.le_of_ble_eq_true rfl⟩ (fun r9 M H locs hp hM hS => ?_)
      obtain ⟨e9, hX9⟩ := hp
      have hXS := hX9.at
      have Z := S.rain P hhH hg (y := q_108) (q := 1 + q_118) (by omega) (by omega) (by omega) (by omega) (by omega)
      subst hQ
      exact m_zret hx hb hr (rfl) hlk hK hM hS dL_does_125 (⟨by rw [e9]; exact Z.2.2, _, hXS, Z.1.mono (by omega) (by omega) (by omega)⟩)
    · refine lv_bipush (v := nI 10) hx hb dL_does_101 (by first | rfl | decide) ?_
      refine lv_goto (tgt := 108) hx hb dL_does_103 (by decide) ?_
      obtain ⟨q_108, hq_108, e_108⟩ := lo_in ((v) >>> (nI 4)) (m := 10) (by decide) (by decide)
      refine m_callRSI (val := nI q_108) (As := [.int ((v) >>> (nI 4)), .int (nI 10)]) (rest := [.ref (X)]) ⟨hx, hb, hml, hown, ht⟩ (q_low l g A M (by decide) e_108) (cwS 2 ht (gUS uw_2004 uw_2005 uw_33 uw_2006) rfl rfl rfl (by decide +kernel) ⟨Nat.le_of_ble_eq_true rfl, Nat.le_of_ble_eq_true rfl⟩) hK hM hS rfl hl.1 rfl (Nat.le_of_ble_eq_true rfl) dL_does_108 ⟨Nat.le_of_ble_eq_true rfl, Nat.le_of_ble_eq_true rfl⟩ (fun H locs hM hS => ?_)
      refine lv_iconst (v := nI 1) hx hb dL_does_111 (by first | rfl | decide) ?_
      refine lv_iload_n hx hb dL_does_112 rfl (lv_at hl 2 rfl) ?_
      refine lv_bipush (v := nI 8) hx hb dL_does_113 (by first | rfl | decide) ?_
      refine lv_ishr hx hb dL_does_115 ?_
      refine lv_bipush (v := nI 6) hx hb dL_does_116 (by first | rfl | decide) ?_
      obtain ⟨q_118, hq_118, e_118⟩ := lo_in ((v) >>> (nI 8)) (m := 6) (by decide) (by decide)
      refine m_callRSI (val := nI q_118) (As := [.int ((v) >>> (nI 8)), .int (nI 6)]) (rest := [.int (nI 1), .int (nI q_108), .ref (X)]) ⟨hx, hb, hml, hown, ht⟩ (q_low l g A M (by decide) e_118) (cwS 2 ht (gUS uw_2004 uw_2005 uw_33 uw_2006) rfl rfl rfl (by decide +kernel) ⟨Nat.le_of_ble_eq_true rfl, Nat.le_of_ble_eq_true rfl⟩) hK hM hS rfl hl.1 rfl (Nat.le_of_ble_eq_true rfl) dL_does_118 ⟨Nat.le_of_ble_eq_true rfl, Nat.le_of_ble_eq_true rfl⟩ (fun H locs hM hS => ?_)
      refine lv_iadd hx hb dL_does_121 ?_
      rw [nI_add (1) (q_118)]
      refine m_callI (As := [.int (nI q_108), .int (nI (1 + q_118))]) (rest := []) ⟨hx, hb, hml, hown, ht⟩ (q_rain l g A M X hXS hCI (y := q_108) (q := 1 + q_118) (by omega) (by omega) (by omega) hh2 (by omega)) (cwV 2 ht (gU uw_2011 uw_348 uw_349 uw_34 uw_350) rfl rfl rfl (by decide +kernel) ⟨Nat.le_of_ble_eq_true rfl, Nat.le_of_ble_eq_true rfl⟩) hK hM hS (m_recv hK hM hXS.ob.1 hXS.ob.2 rfl) rfl hl.1 rfl (Nat.le_of_ble_eq_true rfl) dL_does_122 ⟨Nat.le_of_ble_eq_true rfl, Nat.le_of_ble_eq_true rfl⟩ (fun r9 M H locs hp hM hS => ?_)
      obtain ⟨e9, hX9⟩ := hp
      have hXS := hX9.at
      have Z := S.rain P hhH hg (y := q_108) (q := 1 + q_118) (by omega) (by omega) (by omega) (by omega) (by omega)
      subst hQ
      exact m_zret hx hb hr (rfl) hlk hK hM hS dL_does_125 (⟨by rw [e9]; exact Z.2.2, _, hXS, Z.1.mono (by omega) (by omega) (by omega)⟩)
  by_cases s_13_4 : (sv9) = 4
  · refine lv_tableIn (tgt := 88) (off := 75) hx hb dL_does_13 (by rw [s_13_4]; decide) (by rw [s_13_4]; decide) (by rw [s_13_4]; rfl) (by decide) ?_
    refine lv_aload_n hx hb dL_does_88 rfl (lv_at hl 1 rfl) ?_
    refine lv_iload_n hx hb dL_does_89 rfl (lv_at hl 2 rfl) ?_
    refine lv_iconst (v := nI 4) hx hb dL_does_90 (by first | rfl | decide) ?_
    refine lv_ishr hx hb dL_does_91 ?_
    refine lv_iload_n hx hb dL_does_92 rfl (lv_at hl 2 rfl) ?_
    refine lv_bipush (v := nI 11) hx hb dL_does_93 (by first | rfl | decide) ?_
    refine lv_ishr hx hb dL_does_95 ?_
    refine lv_iconst (v := nI 1) hx hb dL_does_96 (by first | rfl | decide) ?_
    refine lv_iand hx hb dL_does_97 ?_
    refine lv_if_ne (tgt := 106) hx hb dL_does_98 (by decide) (fun c_98 => ?_) (fun c_98 => ?_)
    · refine lv_bipush (v := nI 100) hx hb dL_does_106 (by first | rfl | decide) ?_
      obtain ⟨q_108, hq_108, e_108⟩ := lo_in ((v) >>> (nI 4)) (m := 100) (by decide) (by decide)
      refine m_callRSI (val := nI q_108) (As := [.int ((v) >>> (nI 4)), .int (nI 100)]) (rest := [.ref (X)]) ⟨hx, hb, hml, hown, ht⟩ (q_low l g A M (by decide) e_108) (cwS 2 ht (gUS uw_2004 uw_2005 uw_33 uw_2006) rfl rfl rfl (by decide +kernel) ⟨Nat.le_of_ble_eq_true rfl, Nat.le_of_ble_eq_true rfl⟩) hK hM hS rfl hl.1 rfl (Nat.le_of_ble_eq_true rfl) dL_does_108 ⟨Nat.le_of_ble_eq_true rfl, Nat.le_of_ble_eq_true rfl⟩ (fun H locs hM hS => ?_)
      refine lv_iconst (v := nI 1) hx hb dL_does_111 (by first | rfl | decide) ?_
      refine lv_iload_n hx hb dL_does_112 rfl (lv_at hl 2 rfl) ?_
      refine lv_bipush (v := nI 8) hx hb dL_does_113 (by first | rfl | decide) ?_
      refine lv_ishr hx hb dL_does_115 ?_
      refine lv_bipush (v := nI 6) hx hb dL_does_116 (by first | rfl | decide) ?_
      obtain ⟨q_118, hq_118, e_118⟩ := lo_in ((v) >>> (nI 8)) (m := 6) (by decide) (by decide)
      refine m_callRSI (val := nI q_118) (As := [.int ((v) >>> (nI 8)), .int (nI 6)]) (rest := [.int (nI 1), .int (nI q_108), .ref (X)]) ⟨hx, hb, hml, hown, ht⟩ (q_low l g A M (by decide) e_118) (cwS 2 ht (gUS uw_2004 uw_2005 uw_33 uw_2006) rfl rfl rfl (by decide +kernel) ⟨Nat.le_of_ble_eq_true rfl, Nat.le_of_ble_eq_true rfl⟩) hK hM hS rfl hl.1 rfl (Nat.le_of_ble_eq_true rfl) dL_does_118 ⟨Nat.le_of_ble_eq_true rfl, Nat.le_of_ble_eq_true rfl⟩ (fun H locs hM hS => ?_)
      refine lv_iadd hx hb dL_does_121 ?_
      rw [nI_add (1) (q_118)]
      refine m_callI (As := [.int (nI q_108), .int (nI (1 + q_118))]) (rest := []) ⟨hx, hb, hml, hown, ht⟩ (q_rain l g A M X hXS hCI (y := q_108) (q := 1 + q_118) (by omega) (by omega) (by omega) hh2 (by omega)) (cwV 2 ht (gU uw_2011 uw_348 uw_349 uw_34 uw_350) rfl rfl rfl (by decide +kernel) ⟨Nat.le_of_ble_eq_true rfl, Nat.le_of_ble_eq_true rfl⟩) hK hM hS (m_recv hK hM hXS.ob.1 hXS.ob.2 rfl) rfl hl.1 rfl (Nat.le_of_ble_eq_true rfl) dL_does_122 ⟨Nat.le_of_ble_eq_true rfl, Nat.le_of_ble_eq_true rfl⟩ (fun r9 M H locs hp hM hS => ?_)
      obtain ⟨e9, hX9⟩ := hp
      have hXS := hX9.at
      have Z := S.rain P hhH hg (y := q_108) (q := 1 + q_118) (by omega) (by omega) (by omega) (by omega) (by omega)
      subst hQ
      exact m_zret hx hb hr (rfl) hlk hK hM hS dL_does_125 (⟨by rw [e9]; exact Z.2.2, _, hXS, Z.1.mono (by omega) (by omega) (by omega)⟩)
    · refine lv_bipush (v := nI 10) hx hb dL_does_101 (by first | rfl | decide) ?_
      refine lv_goto (tgt := 108) hx hb dL_does_103 (by decide) ?_
      obtain ⟨q_108, hq_108, e_108⟩ := lo_in ((v) >>> (nI 4)) (m := 10) (by decide) (by decide)
      refine m_callRSI (val := nI q_108) (As := [.int ((v) >>> (nI 4)), .int (nI 10)]) (rest := [.ref (X)]) ⟨hx, hb, hml, hown, ht⟩ (q_low l g A M (by decide) e_108) (cwS 2 ht (gUS uw_2004 uw_2005 uw_33 uw_2006) rfl rfl rfl (by decide +kernel) ⟨Nat.le_of_ble_eq_true rfl, Nat.le_of_ble_eq_true rfl⟩) hK hM hS rfl hl.1 rfl (Nat.le_of_ble_eq_true rfl) dL_does_108 ⟨Nat.le_of_ble_eq_true rfl, Nat.le_of_ble_eq_true rfl⟩ (fun H locs hM hS => ?_)
      refine lv_iconst (v := nI 1) hx hb dL_does_111 (by first | rfl | decide) ?_
      refine lv_iload_n hx hb dL_does_112 rfl (lv_at hl 2 rfl) ?_
      refine lv_bipush (v := nI 8) hx hb dL_does_113 (by first | rfl | decide) ?_
      refine lv_ishr hx hb dL_does_115 ?_
      refine lv_bipush (v := nI 6) hx hb dL_does_116 (by first | rfl | decide) ?_
      obtain ⟨q_118, hq_118, e_118⟩ := lo_in ((v) >>> (nI 8)) (m := 6) (by decide) (by decide)
      refine m_callRSI (val := nI q_118) (As := [.int ((v) >>> (nI 8)), .int (nI 6)]) (rest := [.int (nI 1), .int (nI q_108), .ref (X)]) ⟨hx, hb, hml, hown, ht⟩ (q_low l g A M (by decide) e_118) (cwS 2 ht (gUS uw_2004 uw_2005 uw_33 uw_2006) rfl rfl rfl (by decide +kernel) ⟨Nat.le_of_ble_eq_true rfl, Nat.le_of_ble_eq_true rfl⟩) hK hM hS rfl hl.1 rfl (Nat.le_of_ble_eq_true rfl) dL_does_118 ⟨Nat.le_of_ble_eq_true rfl, Nat.le_of_ble_eq_true rfl⟩ (fun H locs hM hS => ?_)
      refine lv_iadd hx hb dL_does_121 ?_
      rw [nI_add (1) (q_118)]
      refine m_callI (As := [.int (nI q_108), .int (nI (1 + q_118))]) (rest := []) ⟨hx, hb, hml, hown, ht⟩ (q_rain l g A M X hXS hCI (y := q_108) (q := 1 + q_118) (by omega) (by omega) (by omega) hh2 (by omega)) (cwV 2 ht (gU uw_2011 uw_348 uw_349 uw_34 uw_350) rfl rfl rfl (by decide +kernel) ⟨Nat.le_of_ble_eq_true rfl, Nat.le_of_ble_eq_true rfl⟩) hK hM hS (m_recv hK hM hXS.ob.1 hXS.ob.2 rfl) rfl hl.1 rfl (Nat.le_of_ble_eq_true rfl) dL_does_122 ⟨Nat.le_of_ble_eq_true rfl, Nat.le_of_ble_eq_true rfl⟩ (fun r9 M H locs hp hM hS => ?_)
      obtain ⟨e9, hX9⟩ := hp
      have hXS := hX9.at
      have Z := S.rain P hhH hg (y := q_108) (q := 1 + q_118) (by omega) (by omega) (by omega) (by omega) (by omega)
      subst hQ
      exact m_zret hx hb hr (rfl) hlk hK hM hS dL_does_125 (⟨by rw [e9]; exact Z.2.2, _, hXS, Z.1.mono (by omega) (by omega) (by omega)⟩)
  by_cases s_13_5 : (sv9) = 5
  · refine lv_tableIn (tgt := 126) (off := 113) hx hb dL_does_13 (by rw [s_13_5]; decide) (by rw [s_13_5]; decide) (by rw [s_13_5]; rfl) (by decide) ?_
    refine lv_aload_n hx hb dL_does_126 rfl (lv_at hl 1 rfl) ?_
    refine lv_iconst (v := nI 3) hx hb dL_does_127 (by first | rfl | decide) ?_
    refine m_callRI (val := nI n) (As := [.int (nI 3)]) (rest := []) ⟨hx, hb, hml, hown, ht⟩ (q_count l g A M X hXS hCI ((cnt_3 _).trans hn)) (cwV 1 ht (gU uw_2012 uw_503 uw_504 uw_34 uw_505) rfl rfl rfl (by decide +kernel) ⟨Nat.le_of_ble_eq_true rfl, Nat.le_of_ble_eq_true rfl⟩) hK hM hS (m_recv hK hM hXS.ob.1 hXS.ob.2 rfl) rfl hl.1 rfl (Nat.le_of_ble_eq_true rfl) dL_does_128 ⟨Nat.le_of_ble_eq_true rfl, Nat.le_of_ble_eq_true rfl⟩ (fun H locs hM hS => ?_)
    refine lv_bipush (v := nI 20) hx hb dL_does_131 (by first | rfl | decide) ?_
    refine lv_icmp_ne (tgt := 140) hx hb dL_does_133 (by decide) (fun c_133 => ?_) (fun c_133 => ?_)
    · have h20 : n < 20 := by
        rcases Nat.lt_or_ge n 20 with z | z
        · exact z
        · exact absurd (congrArg nI (show n = 20 by have := P.1; omega)) c_133
      refine lv_aload_n hx hb dL_does_140 rfl (lv_at hl 1 rfl) ?_
      refine lv_iload_n hx hb dL_does_141 rfl (lv_at hl 0 rfl) ?_
      refine m_callI (As := [.int (nI q_5)]) (rest := []) ⟨hx, hb, hml, hown, ht⟩ (q_send l g A M X hXS hCI hq_5 hn h20) (cwV 1 ht (gU uw_347 uw_397 uw_398 uw_34 uw_399) rfl rfl rfl (by decide +kernel) ⟨Nat.le_of_ble_eq_true rfl, Nat.le_of_ble_eq_true rfl⟩) hK hM hS (m_recv hK hM hXS.ob.1 hXS.ob.2 rfl) rfl hl.1 rfl (Nat.le_of_ble_eq_true rfl) dL_does_142 ⟨Nat.le_of_ble_eq_true rfl, Nat.le_of_ble_eq_true rfl⟩ (fun r9 M H locs hp hM hS => ?_)
      obtain ⟨e9, hX9⟩ := hp
      have hXS := hX9.at
      have Z := S.snd P hhH hg hq_5 h20 hB9 (by omega)
      subst hQ
      exact m_zret hx hb hr (rfl) hlk hK hM hS dL_does_145 (⟨by rw [e9]; exact Z.2, _, hXS, Z.1.mono (by omega) (by omega) (by omega)⟩)
    · refine lv_iconst (v := nI 0) hx hb dL_does_136 (by first | rfl | decide) ?_
      refine lv_goto (tgt := 145) hx hb dL_does_137 (by decide) ?_
      subst hQ
      exact m_zret hx hb hr (rfl) hlk hK hM hS dL_does_145 (⟨by decide, _, hXS, S.mono (by omega) (by omega) (by omega)⟩)
  by_cases s_13_6 : (sv9) = 6
  · refine lv_tableIn (tgt := 126) (off := 113) hx hb dL_does_13 (by rw [s_13_6]; decide) (by rw [s_13_6]; decide) (by rw [s_13_6]; rfl) (by decide) ?_
    refine lv_aload_n hx hb dL_does_126 rfl (lv_at hl 1 rfl) ?_
    refine lv_iconst (v := nI 3) hx hb dL_does_127 (by first | rfl | decide) ?_
    refine m_callRI (val := nI n) (As := [.int (nI 3)]) (rest := []) ⟨hx, hb, hml, hown, ht⟩ (q_count l g A M X hXS hCI ((cnt_3 _).trans hn)) (cwV 1 ht (gU uw_2012 uw_503 uw_504 uw_34 uw_505) rfl rfl rfl (by decide +kernel) ⟨Nat.le_of_ble_eq_true rfl, Nat.le_of_ble_eq_true rfl⟩) hK hM hS (m_recv hK hM hXS.ob.1 hXS.ob.2 rfl) rfl hl.1 rfl (Nat.le_of_ble_eq_true rfl) dL_does_128 ⟨Nat.le_of_ble_eq_true rfl, Nat.le_of_ble_eq_true rfl⟩ (fun H locs hM hS => ?_)
    refine lv_bipush (v := nI 20) hx hb dL_does_131 (by first | rfl | decide) ?_
    refine lv_icmp_ne (tgt := 140) hx hb dL_does_133 (by decide) (fun c_133 => ?_) (fun c_133 => ?_)
    · have h20 : n < 20 := by
        rcases Nat.lt_or_ge n 20 with z | z
        · exact z
        · exact absurd (congrArg nI (show n = 20 by have := P.1; omega)) c_133
      refine lv_aload_n hx hb dL_does_140 rfl (lv_at hl 1 rfl) ?_
      refine lv_iload_n hx hb dL_does_141 rfl (lv_at hl 0 rfl) ?_
      refine m_callI (As := [.int (nI q_5)]) (rest := []) ⟨hx, hb, hml, hown, ht⟩ (q_send l g A M X hXS hCI hq_5 hn h20) (cwV 1 ht (gU uw_347 uw_397 uw_398 uw_34 uw_399) rfl rfl rfl (by decide +kernel) ⟨Nat.le_of_ble_eq_true rfl, Nat.le_of_ble_eq_true rfl⟩) hK hM hS (m_recv hK hM hXS.ob.1 hXS.ob.2 rfl) rfl hl.1 rfl (Nat.le_of_ble_eq_true rfl) dL_does_142 ⟨Nat.le_of_ble_eq_true rfl, Nat.le_of_ble_eq_true rfl⟩ (fun r9 M H locs hp hM hS => ?_)
      obtain ⟨e9, hX9⟩ := hp
      have hXS := hX9.at
      have Z := S.snd P hhH hg hq_5 h20 hB9 (by omega)
      subst hQ
      exact m_zret hx hb hr (rfl) hlk hK hM hS dL_does_145 (⟨by rw [e9]; exact Z.2, _, hXS, Z.1.mono (by omega) (by omega) (by omega)⟩)
    · refine lv_iconst (v := nI 0) hx hb dL_does_136 (by first | rfl | decide) ?_
      refine lv_goto (tgt := 145) hx hb dL_does_137 (by decide) ?_
      subst hQ
      exact m_zret hx hb hr (rfl) hlk hK hM hS dL_does_145 (⟨by decide, _, hXS, S.mono (by omega) (by omega) (by omega)⟩)
  by_cases s_13_7 : (sv9) = 7
  · refine lv_tableIn (tgt := 126) (off := 113) hx hb dL_does_13 (by rw [s_13_7]; decide) (by rw [s_13_7]; decide) (by rw [s_13_7]; rfl) (by decide) ?_
    refine lv_aload_n hx hb dL_does_126 rfl (lv_at hl 1 rfl) ?_
    refine lv_iconst (v := nI 3) hx hb dL_does_127 (by first | rfl | decide) ?_
    refine m_callRI (val := nI n) (As := [.int (nI 3)]) (rest := []) ⟨hx, hb, hml, hown, ht⟩ (q_count l g A M X hXS hCI ((cnt_3 _).trans hn)) (cwV 1 ht (gU uw_2012 uw_503 uw_504 uw_34 uw_505) rfl rfl rfl (by decide +kernel) ⟨Nat.le_of_ble_eq_true rfl, Nat.le_of_ble_eq_true rfl⟩) hK hM hS (m_recv hK hM hXS.ob.1 hXS.ob.2 rfl) rfl hl.1 rfl (Nat.le_of_ble_eq_true rfl) dL_does_128 ⟨Nat.le_of_ble_eq_true rfl, Nat.le_of_ble_eq_true rfl⟩ (fun H locs hM hS => ?_)
    refine lv_bipush (v := nI 20) hx hb dL_does_131 (by first | rfl | decide) ?_
    refine lv_icmp_ne (tgt := 140) hx hb dL_does_133 (by decide) (fun c_133 => ?_) (fun c_133 => ?_)
    · have h20 : n < 20 := by
        rcases Nat.lt_or_ge n 20 with z | z
        · exact z
        · exact absurd (congrArg nI (show n = 20 by have := P.1; omega)) c_133
      refine lv_aload_n hx hb dL_does_140 rfl (lv_at hl 1 rfl) ?_
      refine lv_iload_n hx hb dL_does_141 rfl (lv_at hl 0 rfl) ?_
      refine m_callI (As := [.int (nI q_5)]) (rest := []) ⟨hx, hb, hml, hown, ht⟩ (q_send l g A M X hXS hCI hq_5 hn h20) (cwV 1 ht (gU uw_347 uw_397 uw_398 uw_34 uw_399) rfl rfl rfl (by decide +kernel) ⟨Nat.le_of_ble_eq_true rfl, Nat.le_of_ble_eq_true rfl⟩) hK hM hS (m_recv hK hM hXS.ob.1 hXS.ob.2 rfl) rfl hl.1 rfl (Nat.le_of_ble_eq_true rfl) dL_does_142 ⟨Nat.le_of_ble_eq_true rfl, Nat.le_of_ble_eq_true rfl⟩ (fun r9 M H locs hp hM hS => ?_)
      obtain ⟨e9, hX9⟩ := hp
      have hXS := hX9.at
      have Z := S.snd P hhH hg hq_5 h20 hB9 (by omega)
      subst hQ
      exact m_zret hx hb hr (rfl) hlk hK hM hS dL_does_145 (⟨by rw [e9]; exact Z.2, _, hXS, Z.1.mono (by omega) (by omega) (by omega)⟩)
    · refine lv_iconst (v := nI 0) hx hb dL_does_136 (by first | rfl | decide) ?_
      refine lv_goto (tgt := 145) hx hb dL_does_137 (by decide) ?_
      subst hQ
      exact m_zret hx hb hr (rfl) hlk hK hM hS dL_does_145 (⟨by decide, _, hXS, S.mono (by omega) (by omega) (by omega)⟩)
  by_cases s_13_8 : (sv9) = 8
  · refine lv_tableIn (tgt := 126) (off := 113) hx hb dL_does_13 (by rw [s_13_8]; decide) (by rw [s_13_8]; decide) (by rw [s_13_8]; rfl) (by decide) ?_
    refine lv_aload_n hx hb dL_does_126 rfl (lv_at hl 1 rfl) ?_
    refine lv_iconst (v := nI 3) hx hb dL_does_127 (by first | rfl | decide) ?_
    refine m_callRI (val := nI n) (As := [.int (nI 3)]) (rest := []) ⟨hx, hb, hml, hown, ht⟩ (q_count l g A M X hXS hCI ((cnt_3 _).trans hn)) (cwV 1 ht (gU uw_2012 uw_503 uw_504 uw_34 uw_505) rfl rfl rfl (by decide +kernel) ⟨Nat.le_of_ble_eq_true rfl, Nat.le_of_ble_eq_true rfl⟩) hK hM hS (m_recv hK hM hXS.ob.1 hXS.ob.2 rfl) rfl hl.1 rfl (Nat.le_of_ble_eq_true rfl) dL_does_128 ⟨Nat.le_of_ble_eq_true rfl, Nat.le_of_ble_eq_true rfl⟩ (fun H locs hM hS => ?_)
    refine lv_bipush (v := nI 20) hx hb dL_does_131 (by first | rfl | decide) ?_
    refine lv_icmp_ne (tgt := 140) hx hb dL_does_133 (by decide) (fun c_133 => ?_) (fun c_133 => ?_)
    · have h20 : n < 20 := by
        rcases Nat.lt_or_ge n 20 with z | z
        · exact z
        · exact absurd (congrArg nI (show n = 20 by have := P.1; omega)) c_133
      refine lv_aload_n hx hb dL_does_140 rfl (lv_at hl 1 rfl) ?_
      refine lv_iload_n hx hb dL_does_141 rfl (lv_at hl 0 rfl) ?_
      refine m_callI (As := [.int (nI q_5)]) (rest := []) ⟨hx, hb, hml, hown, ht⟩ (q_send l g A M X hXS hCI hq_5 hn h20) (cwV 1 ht (gU uw_347 uw_397 uw_398 uw_34 uw_399) rfl rfl rfl (by decide +kernel) ⟨Nat.le_of_ble_eq_true rfl, Nat.le_of_ble_eq_true rfl⟩) hK hM hS (m_recv hK hM hXS.ob.1 hXS.ob.2 rfl) rfl hl.1 rfl (Nat.le_of_ble_eq_true rfl) dL_does_142 ⟨Nat.le_of_ble_eq_true rfl, Nat.le_of_ble_eq_true rfl⟩ (fun r9 M H locs hp hM hS => ?_)
      obtain ⟨e9, hX9⟩ := hp
      have hXS := hX9.at
      have Z := S.snd P hhH hg hq_5 h20 hB9 (by omega)
      subst hQ
      exact m_zret hx hb hr (rfl) hlk hK hM hS dL_does_145 (⟨by rw [e9]; exact Z.2, _, hXS, Z.1.mono (by omega) (by omega) (by omega)⟩)
    · refine lv_iconst (v := nI 0) hx hb dL_does_136 (by first | rfl | decide) ?_
      refine lv_goto (tgt := 145) hx hb dL_does_137 (by decide) ?_
      subst hQ
      exact m_zret hx hb hr (rfl) hlk hK hM hS dL_does_145 (⟨by decide, _, hXS, S.mono (by omega) (by omega) (by omega)⟩)
  by_cases s_13_9 : (sv9) = 9
  · refine lv_tableIn (tgt := 146) (off := 133) hx hb dL_does_13 (by rw [s_13_9]; decide) (by rw [s_13_9]; decide) (by rw [s_13_9]; rfl) (by decide) ?_
    refine lv_aload_n hx hb dL_does_146 rfl (lv_at hl 1 rfl) ?_
    refine lv_iconst (v := nI 3) hx hb dL_does_147 (by first | rfl | decide) ?_
    refine m_callRI (val := nI n) (As := [.int (nI 3)]) (rest := []) ⟨hx, hb, hml, hown, ht⟩ (q_count l g A M X hXS hCI ((cnt_3 _).trans hn)) (cwV 1 ht (gU uw_2012 uw_503 uw_504 uw_34 uw_505) rfl rfl rfl (by decide +kernel) ⟨Nat.le_of_ble_eq_true rfl, Nat.le_of_ble_eq_true rfl⟩) hK hM hS (m_recv hK hM hXS.ob.1 hXS.ob.2 rfl) rfl hl.1 rfl (Nat.le_of_ble_eq_true rfl) dL_does_148 ⟨Nat.le_of_ble_eq_true rfl, Nat.le_of_ble_eq_true rfl⟩ (fun H locs hM hS => ?_)
    refine lv_if_ne (tgt := 158) hx hb dL_does_151 (by decide) (fun c_151 => ?_) (fun c_151 => ?_)
    · have c_nz0 := c_151
      have hn1 : 1 ≤ n := Nat.pos_of_ne_zero (fun z => c_151 (by rw [z]; rfl))
      refine lv_aload_n hx hb dL_does_158 rfl (lv_at hl 1 rfl) ?_
      refine lv_iload_n hx hb dL_does_159 rfl (lv_at hl 2 rfl) ?_
      refine lv_iconst (v := nI 4) hx hb dL_does_160 (by first | rfl | decide) ?_
      refine lv_ishr hx hb dL_does_161 ?_
      refine lv_aload_n hx hb dL_does_162 rfl (lv_at hl 1 rfl) ?_
      refine lv_iconst (v := nI 3) hx hb dL_does_163 (by first | rfl | decide) ?_
      refine m_callRI (val := nI n) (As := [.int (nI 3)]) (rest := [.int ((v) >>> (nI 4)), .ref (X)]) ⟨hx, hb, hml, hown, ht⟩ (q_count l g A M X hXS hCI ((cnt_3 _).trans hn)) (cwV 1 ht (gU uw_2012 uw_503 uw_504 uw_34 uw_505) rfl rfl rfl (by decide +kernel) ⟨Nat.le_of_ble_eq_true rfl, Nat.le_of_ble_eq_true rfl⟩) hK hM hS (m_recv hK hM hXS.ob.1 hXS.ob.2 rfl) rfl hl.1 rfl (Nat.le_of_ble_eq_true rfl) dL_does_164 ⟨Nat.le_of_ble_eq_true rfl, Nat.le_of_ble_eq_true rfl⟩ (fun H locs hM hS => ?_)
      obtain ⟨q_167, hq_167, e_167⟩ := lo_in ((v) >>> (nI 4)) (m := n) hn1 (by have := P.1; omega)
      refine m_callRSI (val := nI q_167) (As := [.int ((v) >>> (nI 4)), .int (nI n)]) (rest := [.ref (X)]) ⟨hx, hb, hml, hown, ht⟩ (q_low l g A M c_nz0 e_167) (cwS 2 ht (gUS uw_2004 uw_2005 uw_33 uw_2006) rfl rfl rfl (by decide +kernel) ⟨Nat.le_of_ble_eq_true rfl, Nat.le_of_ble_eq_true rfl⟩) hK hM hS rfl hl.1 rfl (Nat.le_of_ble_eq_true rfl) dL_does_167 ⟨Nat.le_of_ble_eq_true rfl, Nat.le_of_ble_eq_true rfl⟩ (fun H locs hM hS => ?_)
      refine m_callI (As := [.int (nI q_167)]) (rest := []) ⟨hx, hb, hml, hown, ht⟩ (q_lose l g A M X hXS hCI hn P.1 hq_167) (cwV 1 ht (gU uw_662 uw_415 uw_416 uw_34 uw_417) rfl rfl rfl (by decide +kernel) ⟨Nat.le_of_ble_eq_true rfl, Nat.le_of_ble_eq_true rfl⟩) hK hM hS (m_recv hK hM hXS.ob.1 hXS.ob.2 rfl) rfl hl.1 rfl (Nat.le_of_ble_eq_true rfl) dL_does_170 ⟨Nat.le_of_ble_eq_true rfl, Nat.le_of_ble_eq_true rfl⟩ (fun r9 M H locs hp hM hS => ?_)
      obtain ⟨e9, hX9⟩ := hp
      have hXS := hX9.at
      have Z := S.los P hhH hg hq_167
      subst hQ
      exact m_zret hx hb hr (rfl) hlk hK hM hS dL_does_173 (⟨by rw [e9]; exact Z.2, _, hXS, Z.1.mono (by omega) (by omega) (by omega)⟩)
    · refine lv_iconst (v := nI 0) hx hb dL_does_154 (by first | rfl | decide) ?_
      refine lv_goto (tgt := 173) hx hb dL_does_155 (by decide) ?_
      subst hQ
      exact m_zret hx hb hr (rfl) hlk hK hM hS dL_does_173 (⟨by decide, _, hXS, S.mono (by omega) (by omega) (by omega)⟩)
  by_cases s_13_10 : (sv9) = 10
  · refine lv_tableIn (tgt := 174) (off := 161) hx hb dL_does_13 (by rw [s_13_10]; decide) (by rw [s_13_10]; decide) (by rw [s_13_10]; rfl) (by decide) ?_
    refine lv_aload_n hx hb dL_does_174 rfl (lv_at hl 1 rfl) ?_
    refine lv_iconst (v := nI 3) hx hb dL_does_175 (by first | rfl | decide) ?_
    refine m_callRI (val := nI n) (As := [.int (nI 3)]) (rest := []) ⟨hx, hb, hml, hown, ht⟩ (q_count l g A M X hXS hCI ((cnt_3 _).trans hn)) (cwV 1 ht (gU uw_2012 uw_503 uw_504 uw_34 uw_505) rfl rfl rfl (by decide +kernel) ⟨Nat.le_of_ble_eq_true rfl, Nat.le_of_ble_eq_true rfl⟩) hK hM hS (m_recv hK hM hXS.ob.1 hXS.ob.2 rfl) rfl hl.1 rfl (Nat.le_of_ble_eq_true rfl) dL_does_176 ⟨Nat.le_of_ble_eq_true rfl, Nat.le_of_ble_eq_true rfl⟩ (fun H locs hM hS => ?_)
    refine lv_if_eq (tgt := 192) hx hb dL_does_179 (by decide) (fun c_179 => ?_) (fun c_179 => ?_)
    · refine lv_iconst (v := nI 0) hx hb dL_does_192 (by first | rfl | decide) ?_
      refine lv_goto (tgt := 211) hx hb dL_does_193 (by decide) ?_
      subst hQ
      exact m_zret hx hb hr (rfl) hlk hK hM hS dL_does_211 (⟨by decide, _, hXS, S.mono (by omega) (by omega) (by omega)⟩)
    · refine lv_aload_n hx hb dL_does_182 rfl (lv_at hl 1 rfl) ?_
      refine lv_iconst (v := nI 3) hx hb dL_does_183 (by first | rfl | decide) ?_
      refine m_callRI (val := nI n) (As := [.int (nI 3)]) (rest := []) ⟨hx, hb, hml, hown, ht⟩ (q_count l g A M X hXS hCI ((cnt_3 _).trans hn)) (cwV 1 ht (gU uw_2012 uw_503 uw_504 uw_34 uw_505) rfl rfl rfl (by decide +kernel) ⟨Nat.le_of_ble_eq_true rfl, Nat.le_of_ble_eq_true rfl⟩) hK hM hS (m_recv hK hM hXS.ob.1 hXS.ob.2 rfl) rfl hl.1 rfl (Nat.le_of_ble_eq_true rfl) dL_does_184 ⟨Nat.le_of_ble_eq_true rfl, Nat.le_of_ble_eq_true rfl⟩ (fun H locs hM hS => ?_)
      refine lv_bipush (v := nI 20) hx hb dL_does_187 (by first | rfl | decide) ?_
      refine lv_icmp_ne (tgt := 196) hx hb dL_does_189 (by decide) (fun c_189 => ?_) (fun c_189 => ?_)
      · have h20 : n < 20 := by
          rcases Nat.lt_or_ge n 20 with z | z
          · exact z
          · exact absurd (congrArg nI (show n = 20 by have := P.1; omega)) c_189
        have c_nz0 := c_179
        have hn1 : 1 ≤ n := Nat.pos_of_ne_zero (fun z => c_179 (by rw [z]; rfl))
        refine lv_aload_n hx hb dL_does_196 rfl (lv_at hl 1 rfl) ?_
        refine lv_iload_n hx hb dL_does_197 rfl (lv_at hl 2 rfl) ?_
        refine lv_iconst (v := nI 4) hx hb dL_does_198 (by first | rfl | decide) ?_
        refine lv_ishr hx hb dL_does_199 ?_
        refine lv_aload_n hx hb dL_does_200 rfl (lv_at hl 1 rfl) ?_
        refine lv_iconst (v := nI 3) hx hb dL_does_201 (by first | rfl | decide) ?_
        refine m_callRI (val := nI n) (As := [.int (nI 3)]) (rest := [.int ((v) >>> (nI 4)), .ref (X)]) ⟨hx, hb, hml, hown, ht⟩ (q_count l g A M X hXS hCI ((cnt_3 _).trans hn)) (cwV 1 ht (gU uw_2012 uw_503 uw_504 uw_34 uw_505) rfl rfl rfl (by decide +kernel) ⟨Nat.le_of_ble_eq_true rfl, Nat.le_of_ble_eq_true rfl⟩) hK hM hS (m_recv hK hM hXS.ob.1 hXS.ob.2 rfl) rfl hl.1 rfl (Nat.le_of_ble_eq_true rfl) dL_does_202 ⟨Nat.le_of_ble_eq_true rfl, Nat.le_of_ble_eq_true rfl⟩ (fun H locs hM hS => ?_)
        obtain ⟨q_205, hq_205, e_205⟩ := lo_in ((v) >>> (nI 4)) (m := n) hn1 (by have := P.1; omega)
        refine m_callRSI (val := nI q_205) (As := [.int ((v) >>> (nI 4)), .int (nI n)]) (rest := [.ref (X)]) ⟨hx, hb, hml, hown, ht⟩ (q_low l g A M c_nz0 e_205) (cwS 2 ht (gUS uw_2004 uw_2005 uw_33 uw_2006) rfl rfl rfl (by decide +kernel) ⟨Nat.le_of_ble_eq_true rfl, Nat.le_of_ble_eq_true rfl⟩) hK hM hS rfl hl.1 rfl (Nat.le_of_ble_eq_true rfl) dL_does_205 ⟨Nat.le_of_ble_eq_true rfl, Nat.le_of_ble_eq_true rfl⟩ (fun H locs hM hS => ?_)
        refine m_callI (As := [.int (nI q_205)]) (rest := []) ⟨hx, hb, hml, hown, ht⟩ (q_twice l g A M X hXS hCI hn h20 hq_205) (cwV 1 ht (gU uw_2013 uw_422 uw_423 uw_34 uw_424) rfl rfl rfl (by decide +kernel) ⟨Nat.le_of_ble_eq_true rfl, Nat.le_of_ble_eq_true rfl⟩) hK hM hS (m_recv hK hM hXS.ob.1 hXS.ob.2 rfl) rfl hl.1 rfl (Nat.le_of_ble_eq_true rfl) dL_does_208 ⟨Nat.le_of_ble_eq_true rfl, Nat.le_of_ble_eq_true rfl⟩ (fun r9 M H locs hp hM hS => ?_)
        obtain ⟨e9, hX9⟩ := hp
        have hXS := hX9.at
        have Z := S.twi P hhH hg h20 hq_205
        subst hQ
        exact m_zret hx hb hr (rfl) hlk hK hM hS dL_does_211 (⟨by rw [e9]; exact nIge0 (by omega), _, hXS, Z.mono (by omega) (by omega) (by omega)⟩)
      · refine lv_iconst (v := nI 0) hx hb dL_does_192 (by first | rfl | decide) ?_
        refine lv_goto (tgt := 211) hx hb dL_does_193 (by decide) ?_
        subst hQ
        exact m_zret hx hb hr (rfl) hlk hK hM hS dL_does_211 (⟨by decide, _, hXS, S.mono (by omega) (by omega) (by omega)⟩)
  by_cases s_13_11 : (sv9) = 11
  · refine lv_tableIn (tgt := 212) (off := 199) hx hb dL_does_13 (by rw [s_13_11]; decide) (by rw [s_13_11]; decide) (by rw [s_13_11]; rfl) (by decide) ?_
    refine lv_aload_n hx hb dL_does_212 rfl (lv_at hl 1 rfl) ?_
    refine lv_iload_n hx hb dL_does_213 rfl (lv_at hl 0 rfl) ?_
    refine lv_iconst (v := nI 1) hx hb dL_does_214 (by first | rfl | decide) ?_
    refine lv_iload_n hx hb dL_does_215 rfl (lv_at hl 2 rfl) ?_
    refine lv_bipush (v := nI 6) hx hb dL_does_216 (by first | rfl | decide) ?_
    refine lv_ishr hx hb dL_does_218 ?_
    refine lv_bipush (v := nI 9) hx hb dL_does_219 (by first | rfl | decide) ?_
    obtain ⟨q_221, hq_221, e_221⟩ := lo_in ((v) >>> (nI 6)) (m := 9) (by decide) (by decide)
    refine m_callRSI (val := nI q_221) (As := [.int ((v) >>> (nI 6)), .int (nI 9)]) (rest := [.int (nI 1), .int (nI q_5), .ref (X)]) ⟨hx, hb, hml, hown, ht⟩ (q_low l g A M (by decide) e_221) (cwS 2 ht (gUS uw_2004 uw_2005 uw_33 uw_2006) rfl rfl rfl (by decide +kernel) ⟨Nat.le_of_ble_eq_true rfl, Nat.le_of_ble_eq_true rfl⟩) hK hM hS rfl hl.1 rfl (Nat.le_of_ble_eq_true rfl) dL_does_221 ⟨Nat.le_of_ble_eq_true rfl, Nat.le_of_ble_eq_true rfl⟩ (fun H locs hM hS => ?_)
    refine lv_iadd hx hb dL_does_224 ?_
    rw [nI_add (1) (q_221)]
    refine lv_iconst (v := nI 1) hx hb dL_does_225 (by first | rfl | decide) ?_
    refine lv_iload_n hx hb dL_does_226 rfl (lv_at hl 2 rfl) ?_
    refine lv_bipush (v := nI 7) hx hb dL_does_227 (by first | rfl | decide) ?_
    refine lv_ishr hx hb dL_does_229 ?_
    refine lv_bipush (v := nI 50) hx hb dL_does_230 (by first | rfl | decide) ?_
    obtain ⟨q_232, hq_232, e_232⟩ := lo_in ((v) >>> (nI 7)) (m := 50) (by decide) (by decide)
    refine m_callRSI (val := nI q_232) (As := [.int ((v) >>> (nI 7)), .int (nI 50)]) (rest := [.int (nI 1), .int (nI (1 + q_221)), .int (nI q_5), .ref (X)]) ⟨hx, hb, hml, hown, ht⟩ (q_low l g A M (by decide) e_232) (cwS 2 ht (gUS uw_2004 uw_2005 uw_33 uw_2006) rfl rfl rfl (by decide +kernel) ⟨Nat.le_of_ble_eq_true rfl, Nat.le_of_ble_eq_true rfl⟩) hK hM hS rfl hl.1 rfl (Nat.le_of_ble_eq_true rfl) dL_does_232 ⟨Nat.le_of_ble_eq_true rfl, Nat.le_of_ble_eq_true rfl⟩ (fun H locs hM hS => ?_)
    refine lv_iadd hx hb dL_does_235 ?_
    rw [nI_add (1) (q_232)]
    refine lv_iload_n hx hb dL_does_236 rfl (lv_at hl 2 rfl) ?_
    refine lv_iconst (v := nI 5) hx hb dL_does_237 (by first | rfl | decide) ?_
    refine lv_ishr hx hb dL_does_238 ?_
    refine lv_sipush (v := nI 201) hx hb dL_does_239 (by first | rfl | decide) ?_
    obtain ⟨q_242, hq_242, e_242⟩ := lo_in ((v) >>> (nI 5)) (m := 201) (by decide) (by decide)
    refine m_callRSI (val := nI q_242) (As := [.int ((v) >>> (nI 5)), .int (nI 201)]) (rest := [.int (nI (1 + q_232)), .int (nI (1 + q_221)), .int (nI q_5), .ref (X)]) ⟨hx, hb, hml, hown, ht⟩ (q_low l g A M (by decide) e_242) (cwS 2 ht (gUS uw_2004 uw_2005 uw_33 uw_2006) rfl rfl rfl (by decide +kernel) ⟨Nat.le_of_ble_eq_true rfl, Nat.le_of_ble_eq_true rfl⟩) hK hM hS rfl hl.1 rfl (Nat.le_of_ble_eq_true rfl) dL_does_242 ⟨Nat.le_of_ble_eq_true rfl, Nat.le_of_ble_eq_true rfl⟩ (fun H locs hM hS => ?_)
    refine lv_iload_n hx hb dL_does_245 rfl (lv_at hl 2 rfl) ?_
    refine lv_bipush (v := nI 8) hx hb dL_does_246 (by first | rfl | decide) ?_
    refine lv_ishr hx hb dL_does_248 ?_
    refine lv_bipush (v := nI 10) hx hb dL_does_249 (by first | rfl | decide) ?_
    obtain ⟨q_251, hq_251, e_251⟩ := lo_in ((v) >>> (nI 8)) (m := 10) (by decide) (by decide)
    refine m_callRSI (val := nI q_251) (As := [.int ((v) >>> (nI 8)), .int (nI 10)]) (rest := [.int (nI q_242), .int (nI (1 + q_232)), .int (nI (1 + q_221)), .int (nI q_5), .ref (X)]) ⟨hx, hb, hml, hown, ht⟩ (q_low l g A M (by decide) e_251) (cwS 2 ht (gUS uw_2004 uw_2005 uw_33 uw_2006) rfl rfl rfl (by decide +kernel) ⟨Nat.le_of_ble_eq_true rfl, Nat.le_of_ble_eq_true rfl⟩) hK hM hS rfl hl.1 rfl (Nat.le_of_ble_eq_true rfl) dL_does_251 ⟨Nat.le_of_ble_eq_true rfl, Nat.le_of_ble_eq_true rfl⟩ (fun H locs hM hS => ?_)
    refine m_callI (As := [.int (nI q_5), .int (nI (1 + q_221)), .int (nI (1 + q_232)), .int (nI q_242), .int (nI q_251)]) (rest := []) ⟨hx, hb, hml, hown, ht⟩ (q_gauge l g A M X hXS hCI hq_5 (a := nI (1 + q_221)) (b := nI (1 + q_232)) (d := nI q_242) (w := q_251) (nI_bd (a := 1) (b := 9) (by omega) (by omega) (by decide)) (nI_bd (a := 1) (b := 50) (by omega) (by omega) (by decide)) (nI_bd (a := 0) (b := 200) (by omega) (by omega) (by decide)) (by omega)) (cwV 5 ht (gU uw_414 uw_342 uw_343 uw_34 uw_344) rfl rfl rfl (by decide +kernel) ⟨Nat.le_of_ble_eq_true rfl, Nat.le_of_ble_eq_true rfl⟩) hK hM hS (m_recv hK hM hXS.ob.1 hXS.ob.2 rfl) rfl hl.1 rfl (Nat.le_of_ble_eq_true rfl) dL_does_254 ⟨Nat.le_of_ble_eq_true rfl, Nat.le_of_ble_eq_true rfl⟩ (fun r9 M H locs hp hM hS => ?_)
    obtain ⟨e9, hX9⟩ := hp
    have hXS := hX9.at
    have Z := S.gau P hhH hg hq_5 (a := nI (1 + q_221)) (b := nI (1 + q_232)) (d := nI q_242) (w := q_251) (nI_bd (a := 1) (b := 9) (by omega) (by omega) (by decide)) (nI_bd (a := 1) (b := 50) (by omega) (by omega) (by decide)) (nI_bd (a := 0) (b := 200) (by omega) (by omega) (by decide)) (by omega)
    subst hQ
    exact m_zret hx hb hr (rfl) hlk hK hM hS dL_does_257 (⟨by rw [e9]; exact Z.2, _, hXS, Z.1.mono (by omega) (by omega) (by omega)⟩)
  by_cases s_13_12 : (sv9) = 12
  · refine lv_tableIn (tgt := 212) (off := 199) hx hb dL_does_13 (by rw [s_13_12]; decide) (by rw [s_13_12]; decide) (by rw [s_13_12]; rfl) (by decide) ?_
    refine lv_aload_n hx hb dL_does_212 rfl (lv_at hl 1 rfl) ?_
    refine lv_iload_n hx hb dL_does_213 rfl (lv_at hl 0 rfl) ?_
    refine lv_iconst (v := nI 1) hx hb dL_does_214 (by first | rfl | decide) ?_
    refine lv_iload_n hx hb dL_does_215 rfl (lv_at hl 2 rfl) ?_
    refine lv_bipush (v := nI 6) hx hb dL_does_216 (by first | rfl | decide) ?_
    refine lv_ishr hx hb dL_does_218 ?_
    refine lv_bipush (v := nI 9) hx hb dL_does_219 (by first | rfl | decide) ?_
    obtain ⟨q_221, hq_221, e_221⟩ := lo_in ((v) >>> (nI 6)) (m := 9) (by decide) (by decide)
    refine m_callRSI (val := nI q_221) (As := [.int ((v) >>> (nI 6)), .int (nI 9)]) (rest := [.int (nI 1), .int (nI q_5), .ref (X)]) ⟨hx, hb, hml, hown, ht⟩ (q_low l g A M (by decide) e_221) (cwS 2 ht (gUS uw_2004 uw_2005 uw_33 uw_2006) rfl rfl rfl (by decide +kernel) ⟨Nat.le_of_ble_eq_true rfl, Nat.le_of_ble_eq_true rfl⟩) hK hM hS rfl hl.1 rfl (Nat.le_of_ble_eq_true rfl) dL_does_221 ⟨Nat.le_of_ble_eq_true rfl, Nat.le_of_ble_eq_true rfl⟩ (fun H locs hM hS => ?_)
    refine lv_iadd hx hb dL_does_224 ?_
    rw [nI_add (1) (q_221)]
    refine lv_iconst (v := nI 1) hx hb dL_does_225 (by first | rfl | decide) ?_
    refine lv_iload_n hx hb dL_does_226 rfl (lv_at hl 2 rfl) ?_
    refine lv_bipush (v := nI 7) hx hb dL_does_227 (by first | rfl | decide) ?_
    refine lv_ishr hx hb dL_does_229 ?_
    refine lv_bipush (v := nI 50) hx hb dL_does_230 (by first | rfl | decide) ?_
    obtain ⟨q_232, hq_232, e_232⟩ := lo_in ((v) >>> (nI 7)) (m := 50) (by decide) (by decide)
    refine m_callRSI (val := nI q_232) (As := [.int ((v) >>> (nI 7)), .int (nI 50)]) (rest := [.int (nI 1), .int (nI (1 + q_221)), .int (nI q_5), .ref (X)]) ⟨hx, hb, hml, hown, ht⟩ (q_low l g A M (by decide) e_232) (cwS 2 ht (gUS uw_2004 uw_2005 uw_33 uw_2006) rfl rfl rfl (by decide +kernel) ⟨Nat.le_of_ble_eq_true rfl, Nat.le_of_ble_eq_true rfl⟩) hK hM hS rfl hl.1 rfl (Nat.le_of_ble_eq_true rfl) dL_does_232 ⟨Nat.le_of_ble_eq_true rfl, Nat.le_of_ble_eq_true rfl⟩ (fun H locs hM hS => ?_)
    refine lv_iadd hx hb dL_does_235 ?_
    rw [nI_add (1) (q_232)]
    refine lv_iload_n hx hb dL_does_236 rfl (lv_at hl 2 rfl) ?_
    refine lv_iconst (v := nI 5) hx hb dL_does_237 (by first | rfl | decide) ?_
    refine lv_ishr hx hb dL_does_238 ?_
    refine lv_sipush (v := nI 201) hx hb dL_does_239 (by first | rfl | decide) ?_
    obtain ⟨q_242, hq_242, e_242⟩ := lo_in ((v) >>> (nI 5)) (m := 201) (by decide) (by decide)
    refine m_callRSI (val := nI q_242) (As := [.int ((v) >>> (nI 5)), .int (nI 201)]) (rest := [.int (nI (1 + q_232)), .int (nI (1 + q_221)), .int (nI q_5), .ref (X)]) ⟨hx, hb, hml, hown, ht⟩ (q_low l g A M (by decide) e_242) (cwS 2 ht (gUS uw_2004 uw_2005 uw_33 uw_2006) rfl rfl rfl (by decide +kernel) ⟨Nat.le_of_ble_eq_true rfl, Nat.le_of_ble_eq_true rfl⟩) hK hM hS rfl hl.1 rfl (Nat.le_of_ble_eq_true rfl) dL_does_242 ⟨Nat.le_of_ble_eq_true rfl, Nat.le_of_ble_eq_true rfl⟩ (fun H locs hM hS => ?_)
    refine lv_iload_n hx hb dL_does_245 rfl (lv_at hl 2 rfl) ?_
    refine lv_bipush (v := nI 8) hx hb dL_does_246 (by first | rfl | decide) ?_
    refine lv_ishr hx hb dL_does_248 ?_
    refine lv_bipush (v := nI 10) hx hb dL_does_249 (by first | rfl | decide) ?_
    obtain ⟨q_251, hq_251, e_251⟩ := lo_in ((v) >>> (nI 8)) (m := 10) (by decide) (by decide)
    refine m_callRSI (val := nI q_251) (As := [.int ((v) >>> (nI 8)), .int (nI 10)]) (rest := [.int (nI q_242), .int (nI (1 + q_232)), .int (nI (1 + q_221)), .int (nI q_5), .ref (X)]) ⟨hx, hb, hml, hown, ht⟩ (q_low l g A M (by decide) e_251) (cwS 2 ht (gUS uw_2004 uw_2005 uw_33 uw_2006) rfl rfl rfl (by decide +kernel) ⟨Nat.le_of_ble_eq_true rfl, Nat.le_of_ble_eq_true rfl⟩) hK hM hS rfl hl.1 rfl (Nat.le_of_ble_eq_true rfl) dL_does_251 ⟨Nat.le_of_ble_eq_true rfl, Nat.le_of_ble_eq_true rfl⟩ (fun H locs hM hS => ?_)
    refine m_callI (As := [.int (nI q_5), .int (nI (1 + q_221)), .int (nI (1 + q_232)), .int (nI q_242), .int (nI q_251)]) (rest := []) ⟨hx, hb, hml, hown, ht⟩ (q_gauge l g A M X hXS hCI hq_5 (a := nI (1 + q_221)) (b := nI (1 + q_232)) (d := nI q_242) (w := q_251) (nI_bd (a := 1) (b := 9) (by omega) (by omega) (by decide)) (nI_bd (a := 1) (b := 50) (by omega) (by omega) (by decide)) (nI_bd (a := 0) (b := 200) (by omega) (by omega) (by decide)) (by omega)) (cwV 5 ht (gU uw_414 uw_342 uw_343 uw_34 uw_344) rfl rfl rfl (by decide +kernel) ⟨Nat.le_of_ble_eq_true rfl, Nat.le_of_ble_eq_true rfl⟩) hK hM hS (m_recv hK hM hXS.ob.1 hXS.ob.2 rfl) rfl hl.1 rfl (Nat.le_of_ble_eq_true rfl) dL_does_254 ⟨Nat.le_of_ble_eq_true rfl, Nat.le_of_ble_eq_true rfl⟩ (fun r9 M H locs hp hM hS => ?_)
    obtain ⟨e9, hX9⟩ := hp
    have hXS := hX9.at
    have Z := S.gau P hhH hg hq_5 (a := nI (1 + q_221)) (b := nI (1 + q_232)) (d := nI q_242) (w := q_251) (nI_bd (a := 1) (b := 9) (by omega) (by omega) (by decide)) (nI_bd (a := 1) (b := 50) (by omega) (by omega) (by decide)) (nI_bd (a := 0) (b := 200) (by omega) (by omega) (by decide)) (by omega)
    subst hQ
    exact m_zret hx hb hr (rfl) hlk hK hM hS dL_does_257 (⟨by rw [e9]; exact Z.2, _, hXS, Z.1.mono (by omega) (by omega) (by omega)⟩)
  by_cases s_13_13 : (sv9) = 13
  · refine lv_tableIn (tgt := 258) (off := 245) hx hb dL_does_13 (by rw [s_13_13]; decide) (by rw [s_13_13]; decide) (by rw [s_13_13]; rfl) (by decide) ?_
    refine lv_aload_n hx hb dL_does_258 rfl (lv_at hl 1 rfl) ?_
    refine lv_iconst (v := nI 0) hx hb dL_does_259 (by first | rfl | decide) ?_
    refine lv_iconst (v := nI 4) hx hb dL_does_260 (by first | rfl | decide) ?_
    refine lv_iload_n hx hb dL_does_261 rfl (lv_at hl 2 rfl) ?_
    refine lv_iconst (v := nI 4) hx hb dL_does_262 (by first | rfl | decide) ?_
    refine lv_ishr hx hb dL_does_263 ?_
    refine lv_bipush (v := nI 20) hx hb dL_does_264 (by first | rfl | decide) ?_
    obtain ⟨q_266, hq_266, e_266⟩ := lo_in ((v) >>> (nI 4)) (m := 20) (by decide) (by decide)
    refine m_callRSI (val := nI q_266) (As := [.int ((v) >>> (nI 4)), .int (nI 20)]) (rest := [.int (nI 4), .int (nI 0), .ref (X)]) ⟨hx, hb, hml, hown, ht⟩ (q_low l g A M (by decide) e_266) (cwS 2 ht (gUS uw_2004 uw_2005 uw_33 uw_2006) rfl rfl rfl (by decide +kernel) ⟨Nat.le_of_ble_eq_true rfl, Nat.le_of_ble_eq_true rfl⟩) hK hM hS rfl hl.1 rfl (Nat.le_of_ble_eq_true rfl) dL_does_266 ⟨Nat.le_of_ble_eq_true rfl, Nat.le_of_ble_eq_true rfl⟩ (fun H locs hM hS => ?_)
    refine lv_iadd hx hb dL_does_269 ?_
    rw [nI_add (4) (q_266)]
    refine m_callI (As := [.int (nI 0), .int (nI (4 + q_266))]) (rest := []) ⟨hx, hb, hml, hown, ht⟩ (q_set0 l g A M X hXS hCI (x := 4 + q_266) hn P.1 (by omega) (by omega)) (cwV 2 ht (gU uw_421 uw_298 uw_299 uw_34 uw_300) rfl rfl rfl (by decide +kernel) ⟨Nat.le_of_ble_eq_true rfl, Nat.le_of_ble_eq_true rfl⟩) hK hM hS (m_recv hK hM hXS.ob.1 hXS.ob.2 rfl) rfl hl.1 rfl (Nat.le_of_ble_eq_true rfl) dL_does_270 ⟨Nat.le_of_ble_eq_true rfl, Nat.le_of_ble_eq_true rfl⟩ (fun r9 M H locs hp hM hS => ?_)
    obtain ⟨e9, hX9⟩ := hp
    have hXS := hX9.at
    have Z := S.st0 P hhH hg (x := 4 + q_266) (by omega) (by omega)
    subst hQ
    exact m_zret hx hb hr (rfl) hlk hK hM hS dL_does_273 (⟨by rw [e9]; exact Z.2, _, hXS, Z.1.mono (by omega) (by omega) (by omega)⟩)
  by_cases s_13_14 : (sv9) = 14
  · refine lv_tableIn (tgt := 274) (off := 261) hx hb dL_does_13 (by rw [s_13_14]; decide) (by rw [s_13_14]; decide) (by rw [s_13_14]; rfl) (by decide) ?_
    refine lv_aload_n hx hb dL_does_274 rfl (lv_at hl 1 rfl) ?_
    refine lv_iconst (v := nI 1) hx hb dL_does_275 (by first | rfl | decide) ?_
    refine lv_iload_n hx hb dL_does_276 rfl (lv_at hl 2 rfl) ?_
    refine lv_iconst (v := nI 4) hx hb dL_does_277 (by first | rfl | decide) ?_
    refine lv_ishr hx hb dL_does_278 ?_
    refine lv_iconst (v := nI 1) hx hb dL_does_279 (by first | rfl | decide) ?_
    refine lv_iand hx hb dL_does_280 ?_
    refine m_callI (As := [.int (nI 1), .int (((v) >>> (nI 4)) &&& (nI 1))]) (rest := []) ⟨hx, hb, hml, hown, ht⟩ (q_set1 l g A M X hXS hCI (and1 _)) (cwV 2 ht (gU uw_421 uw_298 uw_299 uw_34 uw_300) rfl rfl rfl (by decide +kernel) ⟨Nat.le_of_ble_eq_true rfl, Nat.le_of_ble_eq_true rfl⟩) hK hM hS (m_recv hK hM hXS.ob.1 hXS.ob.2 rfl) rfl hl.1 rfl (Nat.le_of_ble_eq_true rfl) dL_does_281 ⟨Nat.le_of_ble_eq_true rfl, Nat.le_of_ble_eq_true rfl⟩ (fun r9 M H locs hp hM hS => ?_)
    obtain ⟨e9, hX9⟩ := hp
    have hXS := hX9.at
    have Z := S.st1 P hhH hg (and1 (v >>> nI 4))
    subst hQ
    exact m_zret hx hb hr (rfl) hlk hK hM hS dL_does_284 (⟨by rw [e9]; exact Z.2, _, hXS, Z.1.mono (by omega) (by omega) (by omega)⟩)
  exfalso
  have n_0 := lv_neT (a := 0) s_13_0 (by decide)
  have n_1 := lv_neT (a := 1) s_13_1 (by decide)
  have n_2 := lv_neT (a := 2) s_13_2 (by decide)
  have n_3 := lv_neT (a := 3) s_13_3 (by decide)
  have n_4 := lv_neT (a := 4) s_13_4 (by decide)
  have n_5 := lv_neT (a := 5) s_13_5 (by decide)
  have n_6 := lv_neT (a := 6) s_13_6 (by decide)
  have n_7 := lv_neT (a := 7) s_13_7 (by decide)
  have n_8 := lv_neT (a := 8) s_13_8 (by decide)
  have n_9 := lv_neT (a := 9) s_13_9 (by decide)
  have n_10 := lv_neT (a := 10) s_13_10 (by decide)
  have n_11 := lv_neT (a := 11) s_13_11 (by decide)
  have n_12 := lv_neT (a := 12) s_13_12 (by decide)
  have n_13 := lv_neT (a := 13) s_13_13 (by decide)
  have n_14 := lv_neT (a := 14) s_13_14 (by decide)
  omega
