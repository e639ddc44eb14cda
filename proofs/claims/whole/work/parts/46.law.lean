theorem le6 {a L : Nat} (ha : a < 2 ^ 30) (hL : L < 2 ^ 30) (h : ¬ nI L - nI 6 < nI a) : a + 6 ≤ L := by
  apply Classical.byContradiction
  intro z
  apply h
  rw [ti_lt, pk_sub_toInt hL (by omega), nI_ti (by omega)]
  omega
theorem put3 (x : Int64) (L : Nat) : chC x = 0 ∨ (¬ chC x = 0 ∧ ¬ nI L + chC x ≤ 60) ∨ (¬ chC x = 0 ∧ nI L + chC x ≤ 60) := by
  by_cases h : chC x = 0
  · exact Or.inl h
  · by_cases h2 : nI L + chC x ≤ 60
    · exact Or.inr (Or.inr ⟨h, h2⟩)
    · exact Or.inr (Or.inl ⟨h, h2⟩)
set_option maxHeartbeats 40000000 in
set_option maxRecDepth 100000 in
theorem law_loop {p : Program} {e : Env} {s : State} {m : MethodId} {below : List Frame} {meth : Method} {c : Code} (l : Launch) {b L : Nat} {xs : Nat → Int32} (hL : L ≤ 3072) (C0 : lw_At p s m meth c b L xs) (g : GG) (hK : KK g s) (X : Nat) (hsz : X = s.heap.size) (A : Nat → Prop) (hAX : ∀ q, A q → X ≤ q) : ∀ (z j : Nat) (c9 : CS) (σ : Nat → Int32) (ar : Nat → Nat → Int32) (ns : Nat → Int32) (k9 l9 : Nat) (M : MM) (H : Heap) (locs : List Loc) (ls : Array Slot), L - 6 * j < z → 6 * j ≤ L → RXS g A M M X c9 → RepM g A M (X + 358) σ ar ns → RelS (9 + j) c9 σ ar k9 l9 → ns 0 = nI k9 → ns 1 = nI l9 → HD g A M H → va_S A s.heap H locs → lv_has ls 4 [(3, .int (nI (6 * j))), (2, .ref (X + 358)), (1, .ref X), (0, .ref b)] → W p l e room_1 s m #[Value.ref b] below meth c H locs 365 4759 (lw_Z below #[Value.ref b] s) (F0 m 18 ls []) := by
  obtain ⟨hx, hb, hr, hml, hown, hts, hsc, hbl, hlk, -⟩ := id C0
  have hown : s.vm.findClass RL = some m.cls := hown
  have ht : ∀ w ∈ lw_good, w.before #[Value.ref b] s = true := fun w h => hts w (good_tbl w h)
  have hbA : ¬ A b := fun z => by have := hAX b z; omega
  intro z
  induction z with
  | zero => intro j c9 σ ar ns k9 l9 M H locs ls hz; exact absurd hz (Nat.not_lt_zero _)
  | succ z ih =>
  intro j c9 σ ar ns k9 l9 M H locs ls hz hj hXS hRM hRel hk0 hL0 hM hS hl
  obtain ⟨now, hs, k1, sl, sv, f1, L1⟩ := c9
  obtain ⟨hCI, e1, e2, -, ⟨n, h, R0, hh⟩, -⟩ := id hRel
  have hk6 : k9 ≤ 6 := by rw [← e1]; exact hCI.2.1
  have hL60 : l9 ≤ 60 := by rw [← e2]; exact hCI.2.2.2.2.1
  have hn := R0.2.2.2.2.1
  have hn20 := R0.2.2.1
  have hT := R0.2.1
  have hc1 := BD.c1 R0.2.2.2.2.2.2.1
  have hc2 := BD.c2 R0.2.2.2.2.2.2.1 (by omega)
  have nxt : 6 * j + 6 ≤ L → ∀ (c9 : CS) (σ : Nat → Int32) (ar : Nat → Nat → Int32) (ns : Nat → Int32) (M : MM) (H : Heap) (locs : List Loc) (ls : Array Slot), RXS g A M M X c9 → RepM g A M (X + 358) σ ar ns → (∃ k L, RelS (9 + j + 1) c9 σ ar k L ∧ ns 0 = nI k ∧ ns 1 = nI L) → HD g A M H → va_S A s.heap H locs → lv_has ls 4 [(3, .int (nI (6 * j))), (2, .ref (X + 358)), (1, .ref X), (0, .ref b)] → W p l e room_1 s m #[Value.ref b] below meth c H locs 365 4759 (lw_Z below #[Value.ref b] s) (F0 m 695 ls []) := by
    intro h6 c9 σ ar ns M H locs ls hXS hRM hrel hM hS hl
    obtain ⟨k9, l9, hRel, hk0, hL0⟩ := hrel
    refine lv_iinc (v := nI (6 * (j + 1))) (lv' := [(3, .int (nI (6 * (j + 1)))), (2, .ref (X + 358)), (1, .ref X), (0, .ref b)]) hx hb dL_law_695 hl (k := 0) rfl (nI_add (6 * j) 6) (by decide) rfl (fun ls hl => ?_)
    refine lv_goto (tgt := 18) hx hb dL_law_698 (by decide) ?_
    exact ih (j + 1) c9 σ ar ns k9 l9 M H locs ls (by omega) (by omega) hXS hRM hRel hk0 hL0 hM hS hl
  refine lv_iload_n hx hb dL_law_18 rfl (lv_at hl 0 rfl) ?_
  refine lv_aload_n hx hb dL_law_19 rfl (lv_at hl 3 rfl) ?_
  refine va_slen hx hb hsc hbl hbA hS dL_law_20 ?_
  refine lv_bipush (v := nI 6) hx hb dL_law_21 (by first | rfl | decide) ?_
  refine lv_isub hx hb dL_law_23 ?_
  refine lv_icmp_gt (tgt := 701) hx hb dL_law_24 (by decide) (fun c_24 => ?_) (fun c_24 => ?_)
  · refine lv_iconst (v := nI 1) hx hb dL_law_701 (by first | rfl | decide) ?_
    refine va_forget (fun q hq => hsz ▸ hAX _ (hS.2.2 q hq)) ?_
    refine W.widen (k := 600000) (n := 7302250) (Nat.le_of_ble_eq_true rfl) (Nat.le_of_ble_eq_true rfl) ?_
    exact lw_ret hx hb hr hlk dL_law_702
  · have h24 : 6 * j + 6 ≤ L := le6 (by omega) (by omega) c_24
    have nxt := nxt h24
    refine lv_aload_n hx hb dL_law_27 rfl (lv_at hl 3 rfl) ?_
    refine lv_iload_n hx hb dL_law_28 rfl (lv_at hl 0 rfl) ?_
    refine va_sld hx hb hsc hbl hbA hS (vp_in_nI (by omega) (by omega)) dL_law_29 ?_
    rw [nI_clamp (by omega)]
    refine lv_bipush (v := nI 31) hx hb dL_law_30 (by first | rfl | decide) ?_
    refine lv_iand hx hb dL_law_32 ?_
    refine lv_topi (fun sv9 e_sv9 => ?_)
    by_cases s_33 : (sv9).toInt < 0 ∨ 20 < (sv9).toInt
    · refine lv_tableOut (tgt := 695) hx hb dL_law_33 s_33 (by decide) ?_
      exact nxt _ _ _ _ _ _ _ _ hXS hRM ⟨k9, l9, hRel.mono (Nat.le_succ _), hk0, hL0⟩ hM hS (lv_sub hl [0, 1, 2, 3] rfl)
    by_cases s_33_0 : (sv9) = 0
    · refine lv_tableIn (tgt := 132) (off := 99) hx hb dL_law_33 (by rw [s_33_0]; decide) (by rw [s_33_0]; decide) (by rw [s_33_0]; rfl) (by decide) ?_
      refine lv_aload_n hx hb dL_law_132 rfl (lv_at hl 2 rfl) ?_
      refine lv_aload_n hx hb dL_law_133 rfl (lv_at hl 3 rfl) ?_
      refine lv_iload_n hx hb dL_law_134 rfl (lv_at hl 0 rfl) ?_
      refine lv_iconst (v := nI 1) hx hb dL_law_135 (by first | rfl | decide) ?_
      refine lv_iadd hx hb dL_law_136 ?_
      rw [nI_add ((6 * j)) (1)]
      refine va_sld hx hb hsc hbl hbA hS (vp_in_nI (by omega) (by omega)) dL_law_137 ?_
      rw [nI_clamp (by omega)]
      refine lv_aload_n hx hb dL_law_138 rfl (lv_at hl 3 rfl) ?_
      refine lv_iload_n hx hb dL_law_139 rfl (lv_at hl 0 rfl) ?_
      refine lv_iconst (v := nI 2) hx hb dL_law_140 (by first | rfl | decide) ?_
      refine lv_iadd hx hb dL_law_141 ?_
      rw [nI_add ((6 * j)) (2)]
      refine va_sld hx hb hsc hbl hbA hS (vp_in_nI (by omega) (by omega)) dL_law_142 ?_
      rw [nI_clamp (by omega)]
      refine m_callI (As := [.int (xs ((6 * j) + 1)), .int (xs ((6 * j) + 2))]) (rest := []) ⟨hx, hb, hml, hown, ht⟩ (k_X7_set l g A M X now hs k1 sl sv f1 L1 hXS hCI (xs ((6 * j) + 1)) (xs ((6 * j) + 2))) (cwV 2 ht (gU uw_297 uw_298 uw_299 uw_34 uw_300) rfl rfl rfl (by decide +kernel) ⟨Nat.le_of_ble_eq_true rfl, Nat.le_of_ble_eq_true rfl⟩) hK hM hS (m_recv hK hM hXS.ob.1 hXS.ob.2 rfl) rfl hl.1 rfl (Nat.le_of_ble_eq_true rfl) dL_law_143 ⟨Nat.le_of_ble_eq_true rfl, Nat.le_of_ble_eq_true rfl⟩ (fun r9 M H locs hp hM hS => ?_)
      obtain ⟨e9, hXS9⟩ := hp
      have hRM := hRM.agr (M1 := M) (fun q z1 z2 => hXS9.fr q (by omega))
      have hXS := hXS9.at
      refine lv_aload_n hx hb dL_law_146 rfl (lv_at hl 1 rfl) ?_
      refine lv_aload_n hx hb dL_law_147 rfl (lv_at hl 3 rfl) ?_
      refine lv_iload_n hx hb dL_law_148 rfl (lv_at hl 0 rfl) ?_
      refine lv_iconst (v := nI 1) hx hb dL_law_149 (by first | rfl | decide) ?_
      refine lv_iadd hx hb dL_law_150 ?_
      rw [nI_add ((6 * j)) (1)]
      refine va_sld hx hb hsc hbl hbA hS (vp_in_nI (by omega) (by omega)) dL_law_151 ?_
      rw [nI_clamp (by omega)]
      refine lv_aload_n hx hb dL_law_152 rfl (lv_at hl 3 rfl) ?_
      refine lv_iload_n hx hb dL_law_153 rfl (lv_at hl 0 rfl) ?_
      refine lv_iconst (v := nI 2) hx hb dL_law_154 (by first | rfl | decide) ?_
      refine lv_iadd hx hb dL_law_155 ?_
      rw [nI_add ((6 * j)) (2)]
      refine va_sld hx hb hsc hbl hbA hS (vp_in_nI (by omega) (by omega)) dL_law_156 ?_
      rw [nI_clamp (by omega)]
      refine m_callI (As := [.int (xs ((6 * j) + 1)), .int (xs ((6 * j) + 2))]) (rest := [.int (r9)]) ⟨hx, hb, hml, hown, ht⟩ (k_X8_set l g A M (X + 358) σ ar ns hRM k9 hk6 hk0 n hn hn20 hT (xs ((6 * j) + 1)) (xs ((6 * j) + 2))) (cwV 2 ht (gU uw_626 uw_627 uw_628 uw_42 uw_629) rfl rfl rfl (by decide +kernel) ⟨Nat.le_of_ble_eq_true rfl, Nat.le_of_ble_eq_true rfl⟩) hK hM hS (m_recv hK hM (hRM.1 (X + 358) (by omega) (by omega)) hRM.2.1 rfl) rfl hl.1 rfl (Nat.le_of_ble_eq_true rfl) dL_law_157 ⟨Nat.le_of_ble_eq_true rfl, Nat.le_of_ble_eq_true rfl⟩ (fun r8 M H locs hp hM hS => ?_)
      obtain ⟨e8, hRM, hF8⟩ := hp
      have hXS := hXS.agr (M1 := M) (fun q z1 z2 => hF8 q (by omega))
      have hs9 := sim_set hRel R0 hh hk0 hL0 (xs ((6 * j) + 1)) (xs ((6 * j) + 2))
      refine lv_icmp_eq (tgt := 695) hx hb dL_law_160 (by decide) (fun c_160 => ?_) (fun c_160 => absurd (e9.trans (hs9.1.trans e8.symm)) c_160)
      exact nxt _ _ _ _ _ _ _ _ hXS hRM hs9.2 hM hS (lv_sub hl [0, 1, 2, 3] rfl)
    by_cases s_33_1 : (sv9) = 1
    · refine lv_tableIn (tgt := 165) (off := 132) hx hb dL_law_33 (by rw [s_33_1]; decide) (by rw [s_33_1]; decide) (by rw [s_33_1]; rfl) (by decide) ?_
      refine lv_aload_n hx hb dL_law_165 rfl (lv_at hl 2 rfl) ?_
      refine lv_aload_n hx hb dL_law_166 rfl (lv_at hl 3 rfl) ?_
      refine lv_iload_n hx hb dL_law_167 rfl (lv_at hl 0 rfl) ?_
      refine lv_iconst (v := nI 1) hx hb dL_law_168 (by first | rfl | decide) ?_
      refine lv_iadd hx hb dL_law_169 ?_
      rw [nI_add ((6 * j)) (1)]
      refine va_sld hx hb hsc hbl hbA hS (vp_in_nI (by omega) (by omega)) dL_law_170 ?_
      rw [nI_clamp (by omega)]
      refine lv_aload_n hx hb dL_law_171 rfl (lv_at hl 3 rfl) ?_
      refine lv_iload_n hx hb dL_law_172 rfl (lv_at hl 0 rfl) ?_
      refine lv_iconst (v := nI 2) hx hb dL_law_173 (by first | rfl | decide) ?_
      refine lv_iadd hx hb dL_law_174 ?_
      rw [nI_add ((6 * j)) (2)]
      refine va_sld hx hb hsc hbl hbA hS (vp_in_nI (by omega) (by omega)) dL_law_175 ?_
      rw [nI_clamp (by omega)]
      refine lv_aload_n hx hb dL_law_176 rfl (lv_at hl 3 rfl) ?_
      refine lv_iload_n hx hb dL_law_177 rfl (lv_at hl 0 rfl) ?_
      refine lv_iconst (v := nI 3) hx hb dL_law_178 (by first | rfl | decide) ?_
      refine lv_iadd hx hb dL_law_179 ?_
      rw [nI_add ((6 * j)) (3)]
      refine va_sld hx hb hsc hbl hbA hS (vp_in_nI (by omega) (by omega)) dL_law_180 ?_
      rw [nI_clamp (by omega)]
      refine lv_aload_n hx hb dL_law_181 rfl (lv_at hl 3 rfl) ?_
      refine lv_iload_n hx hb dL_law_182 rfl (lv_at hl 0 rfl) ?_
      refine lv_iconst (v := nI 4) hx hb dL_law_183 (by first | rfl | decide) ?_
      refine lv_iadd hx hb dL_law_184 ?_
      rw [nI_add ((6 * j)) (4)]
      refine va_sld hx hb hsc hbl hbA hS (vp_in_nI (by omega) (by omega)) dL_law_185 ?_
      rw [nI_clamp (by omega)]
      refine lv_aload_n hx hb dL_law_186 rfl (lv_at hl 3 rfl) ?_
      refine lv_iload_n hx hb dL_law_187 rfl (lv_at hl 0 rfl) ?_
      refine lv_iconst (v := nI 5) hx hb dL_law_188 (by first | rfl | decide) ?_
      refine lv_iadd hx hb dL_law_189 ?_
      rw [nI_add ((6 * j)) (5)]
      refine va_sld hx hb hsc hbl hbA hS (vp_in_nI (by omega) (by omega)) dL_law_190 ?_
      rw [nI_clamp (by omega)]
      refine m_callI (As := [.int (xs ((6 * j) + 1)), .int (xs ((6 * j) + 2)), .int (xs ((6 * j) + 3)), .int (xs ((6 * j) + 4)), .int (xs ((6 * j) + 5))]) (rest := []) ⟨hx, hb, hml, hown, ht⟩ (k_X7_gauge l g A M X now hs k1 sl sv f1 L1 hXS hCI (xs ((6 * j) + 1)) (xs ((6 * j) + 2)) (xs ((6 * j) + 3)) (xs ((6 * j) + 4)) (xs ((6 * j) + 5))) (cwV 5 ht (gU uw_341 uw_342 uw_343 uw_34 uw_344) rfl rfl rfl (by decide +kernel) ⟨Nat.le_of_ble_eq_true rfl, Nat.le_of_ble_eq_true rfl⟩) hK hM hS (m_recv hK hM hXS.ob.1 hXS.ob.2 rfl) rfl hl.1 rfl (Nat.le_of_ble_eq_true rfl) dL_law_191 ⟨Nat.le_of_ble_eq_true rfl, Nat.le_of_ble_eq_true rfl⟩ (fun r9 M H locs hp hM hS => ?_)
      obtain ⟨e9, hXS9⟩ := hp
      have hRM := hRM.agr (M1 := M) (fun q z1 z2 => hXS9.fr q (by omega))
      have hXS := hXS9.at
      refine lv_aload_n hx hb dL_law_194 rfl (lv_at hl 1 rfl) ?_
      refine lv_aload_n hx hb dL_law_195 rfl (lv_at hl 3 rfl) ?_
      refine lv_iload_n hx hb dL_law_196 rfl (lv_at hl 0 rfl) ?_
      refine lv_iconst (v := nI 1) hx hb dL_law_197 (by first | rfl | decide) ?_
      refine lv_iadd hx hb dL_law_198 ?_
      rw [nI_add ((6 * j)) (1)]
      refine va_sld hx hb hsc hbl hbA hS (vp_in_nI (by omega) (by omega)) dL_law_199 ?_
      rw [nI_clamp (by omega)]
      refine lv_aload_n hx hb dL_law_200 rfl (lv_at hl 3 rfl) ?_
      refine lv_iload_n hx hb dL_law_201 rfl (lv_at hl 0 rfl) ?_
      refine lv_iconst (v := nI 2) hx hb dL_law_202 (by first | rfl | decide) ?_
      refine lv_iadd hx hb dL_law_203 ?_
      rw [nI_add ((6 * j)) (2)]
      refine va_sld hx hb hsc hbl hbA hS (vp_in_nI (by omega) (by omega)) dL_law_204 ?_
      rw [nI_clamp (by omega)]
      refine lv_aload_n hx hb dL_law_205 rfl (lv_at hl 3 rfl) ?_
      refine lv_iload_n hx hb dL_law_206 rfl (lv_at hl 0 rfl) ?_
      refine lv_iconst (v := nI 3) hx hb dL_law_207 (by first | rfl | decide) ?_
      refine lv_iadd hx hb dL_law_208 ?_
      rw [nI_add ((6 * j)) (3)]
      refine va_sld hx hb hsc hbl hbA hS (vp_in_nI (by omega) (by omega)) dL_law_209 ?_
      rw [nI_clamp (by omega)]
      refine lv_aload_n hx hb dL_law_210 rfl (lv_at hl 3 rfl) ?_
      refine lv_iload_n hx hb dL_law_211 rfl (lv_at hl 0 rfl) ?_
      refine lv_iconst (v := nI 4) hx hb dL_law_212 (by first | rfl | decide) ?_
      refine lv_iadd hx hb dL_law_213 ?_
      rw [nI_add ((6 * j)) (4)]
      refine va_sld hx hb hsc hbl hbA hS (vp_in_nI (by omega) (by omega)) dL_law_214 ?_
      rw [nI_clamp (by omega)]
      refine lv_aload_n hx hb dL_law_215 rfl (lv_at hl 3 rfl) ?_
      refine lv_iload_n hx hb dL_law_216 rfl (lv_at hl 0 rfl) ?_
      refine lv_iconst (v := nI 5) hx hb dL_law_217 (by first | rfl | decide) ?_
      refine lv_iadd hx hb dL_law_218 ?_
      rw [nI_add ((6 * j)) (5)]
      refine va_sld hx hb hsc hbl hbA hS (vp_in_nI (by omega) (by omega)) dL_law_219 ?_
      rw [nI_clamp (by omega)]
      refine m_callI (As := [.int (xs ((6 * j) + 1)), .int (xs ((6 * j) + 2)), .int (xs ((6 * j) + 3)), .int (xs ((6 * j) + 4)), .int (xs ((6 * j) + 5))]) (rest := [.int (r9)]) ⟨hx, hb, hml, hown, ht⟩ (k_X8_gauge l g A M (X + 358) σ ar ns hRM k9 hk6 hk0 (xs ((6 * j) + 1)) (xs ((6 * j) + 2)) (xs ((6 * j) + 3)) (xs ((6 * j) + 4)) (xs ((6 * j) + 5))) (cwV 5 ht (gU uw_654 uw_655 uw_656 uw_42 uw_657) rfl rfl rfl (by decide +kernel) ⟨Nat.le_of_ble_eq_true rfl, Nat.le_of_ble_eq_true rfl⟩) hK hM hS (m_recv hK hM (hRM.1 (X + 358) (by omega) (by omega)) hRM.2.1 rfl) rfl hl.1 rfl (Nat.le_of_ble_eq_true rfl) dL_law_220 ⟨Nat.le_of_ble_eq_true rfl, Nat.le_of_ble_eq_true rfl⟩ (fun r8 M H locs hp hM hS => ?_)
      obtain ⟨e8, hRM, hF8⟩ := hp
      have hXS := hXS.agr (M1 := M) (fun q z1 z2 => hF8 q (by omega))
      have hs9 := sim_gauge hRel R0 hh hk0 hL0 (xs ((6 * j) + 1)) (xs ((6 * j) + 2)) (xs ((6 * j) + 3)) (xs ((6 * j) + 4)) (xs ((6 * j) + 5))
      refine lv_icmp_eq (tgt := 695) hx hb dL_law_223 (by decide) (fun c_223 => ?_) (fun c_223 => absurd (e9.trans (hs9.1.trans e8.symm)) c_223)
      exact nxt _ _ _ _ _ _ _ _ hXS hRM hs9.2 hM hS (lv_sub hl [0, 1, 2, 3] rfl)
    by_cases s_33_2 : (sv9) = 2
    · refine lv_tableIn (tgt := 228) (off := 195) hx hb dL_law_33 (by rw [s_33_2]; decide) (by rw [s_33_2]; decide) (by rw [s_33_2]; rfl) (by decide) ?_
      refine lv_aload_n hx hb dL_law_228 rfl (lv_at hl 2 rfl) ?_
      refine lv_aload_n hx hb dL_law_229 rfl (lv_at hl 3 rfl) ?_
      refine lv_iload_n hx hb dL_law_230 rfl (lv_at hl 0 rfl) ?_
      refine lv_iconst (v := nI 1) hx hb dL_law_231 (by first | rfl | decide) ?_
      refine lv_iadd hx hb dL_law_232 ?_
      rw [nI_add ((6 * j)) (1)]
      refine va_sld hx hb hsc hbl hbA hS (vp_in_nI (by omega) (by omega)) dL_law_233 ?_
      rw [nI_clamp (by omega)]
      refine lv_aload_n hx hb dL_law_234 rfl (lv_at hl 3 rfl) ?_
      refine lv_iload_n hx hb dL_law_235 rfl (lv_at hl 0 rfl) ?_
      refine lv_iconst (v := nI 2) hx hb dL_law_236 (by first | rfl | decide) ?_
      refine lv_iadd hx hb dL_law_237 ?_
      rw [nI_add ((6 * j)) (2)]
      refine va_sld hx hb hsc hbl hbA hS (vp_in_nI (by omega) (by omega)) dL_law_238 ?_
      rw [nI_clamp (by omega)]
      refine m_callI (As := [.int (xs ((6 * j) + 1)), .int (xs ((6 * j) + 2))]) (rest := []) ⟨hx, hb, hml, hown, ht⟩ (k_X7_rain l g A M X now hs k1 sl sv f1 L1 hXS hCI (xs ((6 * j) + 1)) (xs ((6 * j) + 2))) (cwV 2 ht (gU uw_347 uw_348 uw_349 uw_34 uw_350) rfl rfl rfl (by decide +kernel) ⟨Nat.le_of_ble_eq_true rfl, Nat.le_of_ble_eq_true rfl⟩) hK hM hS (m_recv hK hM hXS.ob.1 hXS.ob.2 rfl) rfl hl.1 rfl (Nat.le_of_ble_eq_true rfl) dL_law_239 ⟨Nat.le_of_ble_eq_true rfl, Nat.le_of_ble_eq_true rfl⟩ (fun r9 M H locs hp hM hS => ?_)
      obtain ⟨e9, hXS9⟩ := hp
      have hRM := hRM.agr (M1 := M) (fun q z1 z2 => hXS9.fr q (by omega))
      have hXS := hXS9.at
      refine lv_aload_n hx hb dL_law_242 rfl (lv_at hl 1 rfl) ?_
      refine lv_aload_n hx hb dL_law_243 rfl (lv_at hl 3 rfl) ?_
      refine lv_iload_n hx hb dL_law_244 rfl (lv_at hl 0 rfl) ?_
      refine lv_iconst (v := nI 1) hx hb dL_law_245 (by first | rfl | decide) ?_
      refine lv_iadd hx hb dL_law_246 ?_
      rw [nI_add ((6 * j)) (1)]
      refine va_sld hx hb hsc hbl hbA hS (vp_in_nI (by omega) (by omega)) dL_law_247 ?_
      rw [nI_clamp (by omega)]
      refine lv_aload_n hx hb dL_law_248 rfl (lv_at hl 3 rfl) ?_
      refine lv_iload_n hx hb dL_law_249 rfl (lv_at hl 0 rfl) ?_
      refine lv_iconst (v := nI 2) hx hb dL_law_250 (by first | rfl | decide) ?_
      refine lv_iadd hx hb dL_law_251 ?_
      rw [nI_add ((6 * j)) (2)]
      refine va_sld hx hb hsc hbl hbA hS (vp_in_nI (by omega) (by omega)) dL_law_252 ?_
      rw [nI_clamp (by omega)]
      refine m_callI (As := [.int (xs ((6 * j) + 1)), .int (xs ((6 * j) + 2))]) (rest := [.int (r9)]) ⟨hx, hb, hml, hown, ht⟩ (k_X8_rain l g A M (X + 358) σ ar ns hRM k9 hk6 hk0 (xs ((6 * j) + 1)) (xs ((6 * j) + 2)) ⟨n, hn20, hn, hT⟩) (cwV 2 ht (gU uw_662 uw_663 uw_664 uw_42 uw_665) rfl rfl rfl (by decide +kernel) ⟨Nat.le_of_ble_eq_true rfl, Nat.le_of_ble_eq_true rfl⟩) hK hM hS (m_recv hK hM (hRM.1 (X + 358) (by omega) (by omega)) hRM.2.1 rfl) rfl hl.1 rfl (Nat.le_of_ble_eq_true rfl) dL_law_253 ⟨Nat.le_of_ble_eq_true rfl, Nat.le_of_ble_eq_true rfl⟩ (fun r8 M H locs hp hM hS => ?_)
      obtain ⟨e8, hRM, hF8⟩ := hp
      have hXS := hXS.agr (M1 := M) (fun q z1 z2 => hF8 q (by omega))
      have hs9 := sim_rain hRel R0 hh (by omega) hk0 hL0 (xs ((6 * j) + 1)) (xs ((6 * j) + 2))
      refine lv_icmp_eq (tgt := 695) hx hb dL_law_256 (by decide) (fun c_256 => ?_) (fun c_256 => absurd (e9.trans (hs9.1.trans e8.symm)) c_256)
      exact nxt _ _ _ _ _ _ _ _ hXS hRM hs9.2 hM hS (lv_sub hl [0, 1, 2, 3] rfl)
    by_cases s_33_3 : (sv9) = 3
    · refine lv_tableIn (tgt := 261) (off := 228) hx hb dL_law_33 (by rw [s_33_3]; decide) (by rw [s_33_3]; decide) (by rw [s_33_3]; rfl) (by decide) ?_
      refine lv_aload_n hx hb dL_law_261 rfl (lv_at hl 2 rfl) ?_
      refine lv_aload_n hx hb dL_law_262 rfl (lv_at hl 3 rfl) ?_
      refine lv_iload_n hx hb dL_law_263 rfl (lv_at hl 0 rfl) ?_
      refine lv_iconst (v := nI 1) hx hb dL_law_264 (by first | rfl | decide) ?_
      refine lv_iadd hx hb dL_law_265 ?_
      rw [nI_add ((6 * j)) (1)]
      refine va_sld hx hb hsc hbl hbA hS (vp_in_nI (by omega) (by omega)) dL_law_266 ?_
      rw [nI_clamp (by omega)]
      refine m_callI (As := [.int (xs ((6 * j) + 1))]) (rest := []) ⟨hx, hb, hml, hown, ht⟩ (k_X7_send l g A M X now hs k1 sl sv f1 L1 hXS hCI (xs ((6 * j) + 1))) (cwV 1 ht (gU uw_396 uw_397 uw_398 uw_34 uw_399) rfl rfl rfl (by decide +kernel) ⟨Nat.le_of_ble_eq_true rfl, Nat.le_of_ble_eq_true rfl⟩) hK hM hS (m_recv hK hM hXS.ob.1 hXS.ob.2 rfl) rfl hl.1 rfl (Nat.le_of_ble_eq_true rfl) dL_law_267 ⟨Nat.le_of_ble_eq_true rfl, Nat.le_of_ble_eq_true rfl⟩ (fun r9 M H locs hp hM hS => ?_)
      obtain ⟨e9, hXS9⟩ := hp
      have hRM := hRM.agr (M1 := M) (fun q z1 z2 => hXS9.fr q (by omega))
      have hXS := hXS9.at
      refine lv_aload_n hx hb dL_law_270 rfl (lv_at hl 1 rfl) ?_
      refine lv_aload_n hx hb dL_law_271 rfl (lv_at hl 3 rfl) ?_
      refine lv_iload_n hx hb dL_law_272 rfl (lv_at hl 0 rfl) ?_
      refine lv_iconst (v := nI 1) hx hb dL_law_273 (by first | rfl | decide) ?_
      refine lv_iadd hx hb dL_law_274 ?_
      rw [nI_add ((6 * j)) (1)]
      refine va_sld hx hb hsc hbl hbA hS (vp_in_nI (by omega) (by omega)) dL_law_275 ?_
      rw [nI_clamp (by omega)]
      refine m_callI (As := [.int (xs ((6 * j) + 1))]) (rest := [.int (r9)]) ⟨hx, hb, hml, hown, ht⟩ (k_X8_send l g A M (X + 358) σ ar ns hRM k9 hk6 hk0 n hn hn20 hT hc1 hc2 (xs ((6 * j) + 1))) (cwV 1 ht (gU uw_690 uw_691 uw_692 uw_42 uw_693) rfl rfl rfl (by decide +kernel) ⟨Nat.le_of_ble_eq_true rfl, Nat.le_of_ble_eq_true rfl⟩) hK hM hS (m_recv hK hM (hRM.1 (X + 358) (by omega) (by omega)) hRM.2.1 rfl) rfl hl.1 rfl (Nat.le_of_ble_eq_true rfl) dL_law_276 ⟨Nat.le_of_ble_eq_true rfl, Nat.le_of_ble_eq_true rfl⟩ (fun r8 M H locs hp hM hS => ?_)
      obtain ⟨e8, hRM, hF8⟩ := hp
      have hXS := hXS.agr (M1 := M) (fun q z1 z2 => hF8 q (by omega))
      have hs9 := sim_send hRel R0 hh (by omega) (by omega) hk0 hL0 (xs ((6 * j) + 1))
      refine lv_icmp_eq (tgt := 695) hx hb dL_law_279 (by decide) (fun c_279 => ?_) (fun c_279 => absurd (e9.trans (hs9.1.trans e8.symm)) c_279)
      exact nxt _ _ _ _ _ _ _ _ hXS hRM hs9.2 hM hS (lv_sub hl [0, 1, 2, 3] rfl)
    by_cases s_33_4 : (sv9) = 4
    · refine lv_tableIn (tgt := 284) (off := 251) hx hb dL_law_33 (by rw [s_33_4]; decide) (by rw [s_33_4]; decide) (by rw [s_33_4]; rfl) (by decide) ?_
      refine lv_aload_n hx hb dL_law_284 rfl (lv_at hl 2 rfl) ?_
      refine lv_aload_n hx hb dL_law_285 rfl (lv_at hl 3 rfl) ?_
      refine lv_iload_n hx hb dL_law_286 rfl (lv_at hl 0 rfl) ?_
      refine lv_iconst (v := nI 1) hx hb dL_law_287 (by first | rfl | decide) ?_
      refine lv_iadd hx hb dL_law_288 ?_
      rw [nI_add ((6 * j)) (1)]
      refine va_sld hx hb hsc hbl hbA hS (vp_in_nI (by omega) (by omega)) dL_law_289 ?_
      rw [nI_clamp (by omega)]
      refine m_callI (As := [.int (xs ((6 * j) + 1))]) (rest := []) ⟨hx, hb, hml, hown, ht⟩ (k_X7_lose l g A M X now hs k1 sl sv f1 L1 hXS hCI (xs ((6 * j) + 1))) (cwV 1 ht (gU uw_414 uw_415 uw_416 uw_34 uw_417) rfl rfl rfl (by decide +kernel) ⟨Nat.le_of_ble_eq_true rfl, Nat.le_of_ble_eq_true rfl⟩) hK hM hS (m_recv hK hM hXS.ob.1 hXS.ob.2 rfl) rfl hl.1 rfl (Nat.le_of_ble_eq_true rfl) dL_law_290 ⟨Nat.le_of_ble_eq_true rfl, Nat.le_of_ble_eq_true rfl⟩ (fun r9 M H locs hp hM hS => ?_)
      obtain ⟨e9, hXS9⟩ := hp
      have hRM := hRM.agr (M1 := M) (fun q z1 z2 => hXS9.fr q (by omega))
      have hXS := hXS9.at
      refine lv_aload_n hx hb dL_law_293 rfl (lv_at hl 1 rfl) ?_
      refine lv_aload_n hx hb dL_law_294 rfl (lv_at hl 3 rfl) ?_
      refine lv_iload_n hx hb dL_law_295 rfl (lv_at hl 0 rfl) ?_
      refine lv_iconst (v := nI 1) hx hb dL_law_296 (by first | rfl | decide) ?_
      refine lv_iadd hx hb dL_law_297 ?_
      rw [nI_add ((6 * j)) (1)]
      refine va_sld hx hb hsc hbl hbA hS (vp_in_nI (by omega) (by omega)) dL_law_298 ?_
      rw [nI_clamp (by omega)]
      refine m_callI (As := [.int (xs ((6 * j) + 1))]) (rest := [.int (r9)]) ⟨hx, hb, hml, hown, ht⟩ (k_X8_lose l g A M (X + 358) σ ar ns hRM k9 hk6 hk0 n hn hn20 hT (xs ((6 * j) + 1))) (cwV 1 ht (gU uw_702 uw_703 uw_704 uw_42 uw_705) rfl rfl rfl (by decide +kernel) ⟨Nat.le_of_ble_eq_true rfl, Nat.le_of_ble_eq_true rfl⟩) hK hM hS (m_recv hK hM (hRM.1 (X + 358) (by omega) (by omega)) hRM.2.1 rfl) rfl hl.1 rfl (Nat.le_of_ble_eq_true rfl) dL_law_299 ⟨Nat.le_of_ble_eq_true rfl, Nat.le_of_ble_eq_true rfl⟩ (fun r8 M H locs hp hM hS => ?_)
      obtain ⟨e8, hRM, hF8⟩ := hp
      have hXS := hXS.agr (M1 := M) (fun q z1 z2 => hF8 q (by omega))
      have hs9 := sim_lose hRel R0 hh hk0 hL0 (xs ((6 * j) + 1))
      refine lv_icmp_eq (tgt := 695) hx hb dL_law_302 (by decide) (fun c_302 => ?_) (fun c_302 => absurd (e9.trans (hs9.1.trans e8.symm)) c_302)
      exact nxt _ _ _ _ _ _ _ _ hXS hRM hs9.2 hM hS (lv_sub hl [0, 1, 2, 3] rfl)
    by_cases s_33_5 : (sv9) = 5
    · refine lv_tableIn (tgt := 307) (off := 274) hx hb dL_law_33 (by rw [s_33_5]; decide) (by rw [s_33_5]; decide) (by rw [s_33_5]; rfl) (by decide) ?_
      refine lv_aload_n hx hb dL_law_307 rfl (lv_at hl 2 rfl) ?_
      refine lv_aload_n hx hb dL_law_308 rfl (lv_at hl 3 rfl) ?_
      refine lv_iload_n hx hb dL_law_309 rfl (lv_at hl 0 rfl) ?_
      refine lv_iconst (v := nI 1) hx hb dL_law_310 (by first | rfl | decide) ?_
      refine lv_iadd hx hb dL_law_311 ?_
      rw [nI_add ((6 * j)) (1)]
      refine va_sld hx hb hsc hbl hbA hS (vp_in_nI (by omega) (by omega)) dL_law_312 ?_
      rw [nI_clamp (by omega)]
      refine m_callI (As := [.int (xs ((6 * j) + 1))]) (rest := []) ⟨hx, hb, hml, hown, ht⟩ (k_X7_twice l g A M X now hs k1 sl sv f1 L1 hXS hCI (xs ((6 * j) + 1))) (cwV 1 ht (gU uw_421 uw_422 uw_423 uw_34 uw_424) rfl rfl rfl (by decide +kernel) ⟨Nat.le_of_ble_eq_true rfl, Nat.le_of_ble_eq_true rfl⟩) hK hM hS (m_recv hK hM hXS.ob.1 hXS.ob.2 rfl) rfl hl.1 rfl (Nat.le_of_ble_eq_true rfl) dL_law_313 ⟨Nat.le_of_ble_eq_true rfl, Nat.le_of_ble_eq_true rfl⟩ (fun r9 M H locs hp hM hS => ?_)
      obtain ⟨e9, hXS9⟩ := hp
      have hRM := hRM.agr (M1 := M) (fun q z1 z2 => hXS9.fr q (by omega))
      have hXS := hXS9.at
      refine lv_aload_n hx hb dL_law_316 rfl (lv_at hl 1 rfl) ?_
      refine lv_aload_n hx hb dL_law_317 rfl (lv_at hl 3 rfl) ?_
      refine lv_iload_n hx hb dL_law_318 rfl (lv_at hl 0 rfl) ?_
      refine lv_iconst (v := nI 1) hx hb dL_law_319 (by first | rfl | decide) ?_
      refine lv_iadd hx hb dL_law_320 ?_
      rw [nI_add ((6 * j)) (1)]
      refine va_sld hx hb hsc hbl hbA hS (vp_in_nI (by omega) (by omega)) dL_law_321 ?_
      rw [nI_clamp (by omega)]
      refine m_callI (As := [.int (xs ((6 * j) + 1))]) (rest := [.int (r9)]) ⟨hx, hb, hml, hown, ht⟩ (k_X8_twice l g A M (X + 358) σ ar ns hRM k9 hk6 hk0 n hn hn20 hT (xs ((6 * j) + 1))) (cwV 1 ht (gU uw_706 uw_707 uw_708 uw_42 uw_709) rfl rfl rfl (by decide +kernel) ⟨Nat.le_of_ble_eq_true rfl, Nat.le_of_ble_eq_true rfl⟩) hK hM hS (m_recv hK hM (hRM.1 (X + 358) (by omega) (by omega)) hRM.2.1 rfl) rfl hl.1 rfl (Nat.le_of_ble_eq_true rfl) dL_law_322 ⟨Nat.le_of_ble_eq_true rfl, Nat.le_of_ble_eq_true rfl⟩ (fun r8 M H locs hp hM hS => ?_)
      obtain ⟨e8, hRM, hF8⟩ := hp
      have hXS := hXS.agr (M1 := M) (fun q z1 z2 => hF8 q (by omega))
      have hs9 := sim_twice hRel R0 hh hk0 hL0 (xs ((6 * j) + 1))
      refine lv_icmp_eq (tgt := 695) hx hb dL_law_325 (by decide) (fun c_325 => ?_) (fun c_325 => absurd (e9.trans (hs9.1.trans e8.symm)) c_325)
      exact nxt _ _ _ _ _ _ _ _ hXS hRM hs9.2 hM hS (lv_sub hl [0, 1, 2, 3] rfl)
    by_cases s_33_6 : (sv9) = 6
    · refine lv_tableIn (tgt := 330) (off := 297) hx hb dL_law_33 (by rw [s_33_6]; decide) (by rw [s_33_6]; decide) (by rw [s_33_6]; rfl) (by decide) ?_
      refine lv_aload_n hx hb dL_law_330 rfl (lv_at hl 2 rfl) ?_
      refine m_callI (As := []) (rest := []) ⟨hx, hb, hml, hown, ht⟩ (k_X7_run l g A M X now hs k1 sl sv f1 L1 hXS hCI) (cwV 0 ht (gU uw_429 uw_430 uw_431 uw_34 uw_432) rfl rfl rfl (by decide +kernel) ⟨Nat.le_of_ble_eq_true rfl, Nat.le_of_ble_eq_true rfl⟩) hK hM hS (m_recv hK hM hXS.ob.1 hXS.ob.2 rfl) rfl hl.1 rfl (Nat.le_of_ble_eq_true rfl) dL_law_331 ⟨Nat.le_of_ble_eq_true rfl, Nat.le_of_ble_eq_true rfl⟩ (fun r9 M H locs hp hM hS => ?_)
      obtain ⟨e9, hXS9⟩ := hp
      have hRM := hRM.agr (M1 := M) (fun q z1 z2 => hXS9.fr q (by omega))
      have hXS := hXS9.at
      refine lv_aload_n hx hb dL_law_334 rfl (lv_at hl 1 rfl) ?_
      refine m_callI (As := []) (rest := [.int (r9)]) ⟨hx, hb, hml, hown, ht⟩ (k_X8_run l g A M (X + 358) σ ar ns hRM l9 hL0 hL60 k9 hk6 hk0 (JB (9 + j)) ⟨now, n, h, R0, hh⟩ (fun _ J => J.one) (fun _ _ J ok => J.two (by omega) (by omega) ok)) (cwV 0 ht (gU uw_710 uw_711 uw_712 uw_42 uw_713) rfl rfl rfl (by decide +kernel) ⟨Nat.le_of_ble_eq_true rfl, Nat.le_of_ble_eq_true rfl⟩) hK hM hS (m_recv hK hM (hRM.1 (X + 358) (by omega) (by omega)) hRM.2.1 rfl) rfl hl.1 rfl (Nat.le_of_ble_eq_true rfl) dL_law_335 ⟨Nat.le_of_ble_eq_true rfl, Nat.le_of_ble_eq_true rfl⟩ (fun r8 M H locs hp hM hS => ?_)
      obtain ⟨p1, p2⟩ := hp
      by_cases hfu : fauC (ar 5) l9 60 0 = none
      · obtain ⟨e8, ns1, hRM, hF8, m0, m1⟩ := p1 hfu
        have hXS := hXS.agr (M1 := M) (fun q z1 z2 => hF8 q (by omega))
        have hs9 := sim_run hRel (by omega) (by omega) hfu m0 m1
        refine lv_icmp_eq (tgt := 695) hx hb dL_law_338 (by decide) (fun c_338 => ?_) (fun c_338 => absurd (e9.trans (hs9.1.trans e8.symm)) c_338)
        exact nxt _ _ _ _ _ _ _ _ hXS hRM hs9.2 hM hS (lv_sub hl [0, 1, 2, 3] rfl)
      · obtain ⟨e8, ns1, hRM, hF8, m0, m1⟩ := p2 hfu
        have hXS := hXS.agr (M1 := M) (fun q z1 z2 => hF8 q (by omega))
        have hs9 := sim_runb hRel hfu (m0.trans hk0) (m1.trans hL0)
        refine lv_icmp_eq (tgt := 695) hx hb dL_law_338 (by decide) (fun c_338 => ?_) (fun c_338 => absurd (e9.trans (hs9.1.trans e8.symm)) c_338)
        exact nxt _ _ _ _ _ _ _ _ hXS hRM hs9.2 hM hS (lv_sub hl [0, 1, 2, 3] rfl)
    by_cases s_33_7 : (sv9) = 7
    · refine lv_tableIn (tgt := 343) (off := 310) hx hb dL_law_33 (by rw [s_33_7]; decide) (by rw [s_33_7]; decide) (by rw [s_33_7]; rfl) (by decide) ?_
      refine lv_aload_n hx hb dL_law_343 rfl (lv_at hl 2 rfl) ?_
      refine lv_aload_n hx hb dL_law_344 rfl (lv_at hl 3 rfl) ?_
      refine lv_iload_n hx hb dL_law_345 rfl (lv_at hl 0 rfl) ?_
      refine lv_iconst (v := nI 1) hx hb dL_law_346 (by first | rfl | decide) ?_
      refine lv_iadd hx hb dL_law_347 ?_
      rw [nI_add ((6 * j)) (1)]
      refine va_sld hx hb hsc hbl hbA hS (vp_in_nI (by omega) (by omega)) dL_law_348 ?_
      rw [nI_clamp (by omega)]
      refine lv_aload_n hx hb dL_law_349 rfl (lv_at hl 3 rfl) ?_
      refine lv_iload_n hx hb dL_law_350 rfl (lv_at hl 0 rfl) ?_
      refine lv_iconst (v := nI 2) hx hb dL_law_351 (by first | rfl | decide) ?_
      refine lv_iadd hx hb dL_law_352 ?_
      rw [nI_add ((6 * j)) (2)]
      refine va_sld hx hb hsc hbl hbA hS (vp_in_nI (by omega) (by omega)) dL_law_353 ?_
      rw [nI_clamp (by omega)]
      refine m_callRI (val := oGaugeOf (now, hs, k1, sl, sv, f1, L1) (xs ((6 * j) + 1)) (xs ((6 * j) + 2))) (As := [.int (xs ((6 * j) + 1)), .int (xs ((6 * j) + 2))]) (rest := []) ⟨hx, hb, hml, hown, ht⟩ (k_X7_gaugeOf l g A M X now hs k1 sl sv f1 L1 hXS hCI (xs ((6 * j) + 1)) (xs ((6 * j) + 2))) (cwV 2 ht (gU uw_480 uw_481 uw_482 uw_34 uw_483) rfl rfl rfl (by decide +kernel) ⟨Nat.le_of_ble_eq_true rfl, Nat.le_of_ble_eq_true rfl⟩) hK hM hS (m_recv hK hM hXS.ob.1 hXS.ob.2 rfl) rfl hl.1 rfl (Nat.le_of_ble_eq_true rfl) dL_law_354 ⟨Nat.le_of_ble_eq_true rfl, Nat.le_of_ble_eq_true rfl⟩ (fun H locs hM hS => ?_)
      refine lv_aload_n hx hb dL_law_357 rfl (lv_at hl 1 rfl) ?_
      refine lv_aload_n hx hb dL_law_358 rfl (lv_at hl 3 rfl) ?_
      refine lv_iload_n hx hb dL_law_359 rfl (lv_at hl 0 rfl) ?_
      refine lv_iconst (v := nI 1) hx hb dL_law_360 (by first | rfl | decide) ?_
      refine lv_iadd hx hb dL_law_361 ?_
      rw [nI_add ((6 * j)) (1)]
      refine va_sld hx hb hsc hbl hbA hS (vp_in_nI (by omega) (by omega)) dL_law_362 ?_
      rw [nI_clamp (by omega)]
      refine lv_aload_n hx hb dL_law_363 rfl (lv_at hl 3 rfl) ?_
      refine lv_iload_n hx hb dL_law_364 rfl (lv_at hl 0 rfl) ?_
      refine lv_iconst (v := nI 2) hx hb dL_law_365 (by first | rfl | decide) ?_
      refine lv_iadd hx hb dL_law_366 ?_
      rw [nI_add ((6 * j)) (2)]
      refine va_sld hx hb hsc hbl hbA hS (vp_in_nI (by omega) (by omega)) dL_law_367 ?_
      rw [nI_clamp (by omega)]
      refine m_callRI (val := mGaugeOf σ (xs ((6 * j) + 1)) (xs ((6 * j) + 2))) (As := [.int (xs ((6 * j) + 1)), .int (xs ((6 * j) + 2))]) (rest := [.int (oGaugeOf (now, hs, k1, sl, sv, f1, L1) (xs ((6 * j) + 1)) (xs ((6 * j) + 2)))]) ⟨hx, hb, hml, hown, ht⟩ (k_X8_gaugeOf l g A M (X + 358) σ ar ns hRM n hn hn20 hT (xs ((6 * j) + 1)) (xs ((6 * j) + 2))) (cwV 2 ht (gU uw_731 uw_732 uw_733 uw_42 uw_734) rfl rfl rfl (by decide +kernel) ⟨Nat.le_of_ble_eq_true rfl, Nat.le_of_ble_eq_true rfl⟩) hK hM hS (m_recv hK hM (hRM.1 (X + 358) (by omega) (by omega)) hRM.2.1 rfl) rfl hl.1 rfl (Nat.le_of_ble_eq_true rfl) dL_law_368 ⟨Nat.le_of_ble_eq_true rfl, Nat.le_of_ble_eq_true rfl⟩ (fun H locs hM hS => ?_)
      have hs9 := sim_same hRel hk0 hL0 (sim_gaugeOf R0 (xs ((6 * j) + 1)) (xs ((6 * j) + 2)))
      refine lv_icmp_eq (tgt := 695) hx hb dL_law_371 (by decide) (fun c_371 => ?_) (fun c_371 => absurd (hs9.1) c_371)
      exact nxt _ _ _ _ _ _ _ _ hXS hRM hs9.2 hM hS (lv_sub hl [0, 1, 2, 3] rfl)
    by_cases s_33_8 : (sv9) = 8
    · refine lv_tableIn (tgt := 376) (off := 343) hx hb dL_law_33 (by rw [s_33_8]; decide) (by rw [s_33_8]; decide) (by rw [s_33_8]; rfl) (by decide) ?_
      refine lv_aload_n hx hb dL_law_376 rfl (lv_at hl 2 rfl) ?_
      refine lv_aload_n hx hb dL_law_377 rfl (lv_at hl 3 rfl) ?_
      refine lv_iload_n hx hb dL_law_378 rfl (lv_at hl 0 rfl) ?_
      refine lv_iconst (v := nI 1) hx hb dL_law_379 (by first | rfl | decide) ?_
      refine lv_iadd hx hb dL_law_380 ?_
      rw [nI_add ((6 * j)) (1)]
      refine va_sld hx hb hsc hbl hbA hS (vp_in_nI (by omega) (by omega)) dL_law_381 ?_
      rw [nI_clamp (by omega)]
      refine lv_aload_n hx hb dL_law_382 rfl (lv_at hl 3 rfl) ?_
      refine lv_iload_n hx hb dL_law_383 rfl (lv_at hl 0 rfl) ?_
      refine lv_iconst (v := nI 2) hx hb dL_law_384 (by first | rfl | decide) ?_
      refine lv_iadd hx hb dL_law_385 ?_
      rw [nI_add ((6 * j)) (2)]
      refine va_sld hx hb hsc hbl hbA hS (vp_in_nI (by omega) (by omega)) dL_law_386 ?_
      rw [nI_clamp (by omega)]
      refine m_callRI (val := oLedger (now, hs, k1, sl, sv, f1, L1) (xs ((6 * j) + 1)) (xs ((6 * j) + 2))) (As := [.int (xs ((6 * j) + 1)), .int (xs ((6 * j) + 2))]) (rest := []) ⟨hx, hb, hml, hown, ht⟩ (k_X7_ledger l g A M X now hs k1 sl sv f1 L1 hXS hCI (xs ((6 * j) + 1)) (xs ((6 * j) + 2))) (cwV 2 ht (gU uw_489 uw_490 uw_491 uw_34 uw_492) rfl rfl rfl (by decide +kernel) ⟨Nat.le_of_ble_eq_true rfl, Nat.le_of_ble_eq_true rfl⟩) hK hM hS (m_recv hK hM hXS.ob.1 hXS.ob.2 rfl) rfl hl.1 rfl (Nat.le_of_ble_eq_true rfl) dL_law_387 ⟨Nat.le_of_ble_eq_true rfl, Nat.le_of_ble_eq_true rfl⟩ (fun H locs hM hS => ?_)
      refine lv_aload_n hx hb dL_law_390 rfl (lv_at hl 1 rfl) ?_
      refine lv_aload_n hx hb dL_law_391 rfl (lv_at hl 3 rfl) ?_
      refine lv_iload_n hx hb dL_law_392 rfl (lv_at hl 0 rfl) ?_
      refine lv_iconst (v := nI 1) hx hb dL_law_393 (by first | rfl | decide) ?_
      refine lv_iadd hx hb dL_law_394 ?_
      rw [nI_add ((6 * j)) (1)]
      refine va_sld hx hb hsc hbl hbA hS (vp_in_nI (by omega) (by omega)) dL_law_395 ?_
      rw [nI_clamp (by omega)]
      refine lv_aload_n hx hb dL_law_396 rfl (lv_at hl 3 rfl) ?_
      refine lv_iload_n hx hb dL_law_397 rfl (lv_at hl 0 rfl) ?_
      refine lv_iconst (v := nI 2) hx hb dL_law_398 (by first | rfl | decide) ?_
      refine lv_iadd hx hb dL_law_399 ?_
      rw [nI_add ((6 * j)) (2)]
      refine va_sld hx hb hsc hbl hbA hS (vp_in_nI (by omega) (by omega)) dL_law_400 ?_
      rw [nI_clamp (by omega)]
      refine m_callRI (val := mLedger σ (xs ((6 * j) + 1)) (xs ((6 * j) + 2))) (As := [.int (xs ((6 * j) + 1)), .int (xs ((6 * j) + 2))]) (rest := [.int (oLedger (now, hs, k1, sl, sv, f1, L1) (xs ((6 * j) + 1)) (xs ((6 * j) + 2)))]) ⟨hx, hb, hml, hown, ht⟩ (k_X8_ledger l g A M (X + 358) σ ar ns hRM  (xs ((6 * j) + 1)) (xs ((6 * j) + 2))) (cwV 2 ht (gU uw_735 uw_736 uw_737 uw_42 uw_738) rfl rfl rfl (by decide +kernel) ⟨Nat.le_of_ble_eq_true rfl, Nat.le_of_ble_eq_true rfl⟩) hK hM hS (m_recv hK hM (hRM.1 (X + 358) (by omega) (by omega)) hRM.2.1 rfl) rfl hl.1 rfl (Nat.le_of_ble_eq_true rfl) dL_law_401 ⟨Nat.le_of_ble_eq_true rfl, Nat.le_of_ble_eq_true rfl⟩ (fun H locs hM hS => ?_)
      have hs9 := sim_same hRel hk0 hL0 (sim_ledger R0 (xs ((6 * j) + 1)) (xs ((6 * j) + 2)))
      refine lv_icmp_eq (tgt := 695) hx hb dL_law_404 (by decide) (fun c_404 => ?_) (fun c_404 => absurd (hs9.1) c_404)
      exact nxt _ _ _ _ _ _ _ _ hXS hRM hs9.2 hM hS (lv_sub hl [0, 1, 2, 3] rfl)
    by_cases s_33_9 : (sv9) = 9
    · refine lv_tableIn (tgt := 409) (off := 376) hx hb dL_law_33 (by rw [s_33_9]; decide) (by rw [s_33_9]; decide) (by rw [s_33_9]; rfl) (by decide) ?_
      refine lv_aload_n hx hb dL_law_409 rfl (lv_at hl 2 rfl) ?_
      refine lv_aload_n hx hb dL_law_410 rfl (lv_at hl 3 rfl) ?_
      refine lv_iload_n hx hb dL_law_411 rfl (lv_at hl 0 rfl) ?_
      refine lv_iconst (v := nI 1) hx hb dL_law_412 (by first | rfl | decide) ?_
      refine lv_iadd hx hb dL_law_413 ?_
      rw [nI_add ((6 * j)) (1)]
      refine va_sld hx hb hsc hbl hbA hS (vp_in_nI (by omega) (by omega)) dL_law_414 ?_
      rw [nI_clamp (by omega)]
      refine lv_aload_n hx hb dL_law_415 rfl (lv_at hl 3 rfl) ?_
      refine lv_iload_n hx hb dL_law_416 rfl (lv_at hl 0 rfl) ?_
      refine lv_iconst (v := nI 2) hx hb dL_law_417 (by first | rfl | decide) ?_
      refine lv_iadd hx hb dL_law_418 ?_
      rw [nI_add ((6 * j)) (2)]
      refine va_sld hx hb hsc hbl hbA hS (vp_in_nI (by omega) (by omega)) dL_law_419 ?_
      rw [nI_clamp (by omega)]
      refine m_callRI (val := oRunner (now, hs, k1, sl, sv, f1, L1) (xs ((6 * j) + 1)) (xs ((6 * j) + 2))) (As := [.int (xs ((6 * j) + 1)), .int (xs ((6 * j) + 2))]) (rest := []) ⟨hx, hb, hml, hown, ht⟩ (k_X7_runner l g A M X now hs k1 sl sv f1 L1 hXS hCI (xs ((6 * j) + 1)) (xs ((6 * j) + 2))) (cwV 2 ht (gU uw_498 uw_499 uw_500 uw_34 uw_501) rfl rfl rfl (by decide +kernel) ⟨Nat.le_of_ble_eq_true rfl, Nat.le_of_ble_eq_true rfl⟩) hK hM hS (m_recv hK hM hXS.ob.1 hXS.ob.2 rfl) rfl hl.1 rfl (Nat.le_of_ble_eq_true rfl) dL_law_420 ⟨Nat.le_of_ble_eq_true rfl, Nat.le_of_ble_eq_true rfl⟩ (fun H locs hM hS => ?_)
      refine lv_aload_n hx hb dL_law_423 rfl (lv_at hl 1 rfl) ?_
      refine lv_aload_n hx hb dL_law_424 rfl (lv_at hl 3 rfl) ?_
      refine lv_iload_n hx hb dL_law_425 rfl (lv_at hl 0 rfl) ?_
      refine lv_iconst (v := nI 1) hx hb dL_law_426 (by first | rfl | decide) ?_
      refine lv_iadd hx hb dL_law_427 ?_
      rw [nI_add ((6 * j)) (1)]
      refine va_sld hx hb hsc hbl hbA hS (vp_in_nI (by omega) (by omega)) dL_law_428 ?_
      rw [nI_clamp (by omega)]
      refine lv_aload_n hx hb dL_law_429 rfl (lv_at hl 3 rfl) ?_
      refine lv_iload_n hx hb dL_law_430 rfl (lv_at hl 0 rfl) ?_
      refine lv_iconst (v := nI 2) hx hb dL_law_431 (by first | rfl | decide) ?_
      refine lv_iadd hx hb dL_law_432 ?_
      rw [nI_add ((6 * j)) (2)]
      refine va_sld hx hb hsc hbl hbA hS (vp_in_nI (by omega) (by omega)) dL_law_433 ?_
      rw [nI_clamp (by omega)]
      refine m_callRI (val := mRunner n σ (xs ((6 * j) + 1)) (xs ((6 * j) + 2))) (As := [.int (xs ((6 * j) + 1)), .int (xs ((6 * j) + 2))]) (rest := [.int (oRunner (now, hs, k1, sl, sv, f1, L1) (xs ((6 * j) + 1)) (xs ((6 * j) + 2)))]) ⟨hx, hb, hml, hown, ht⟩ (k_X8_runner l g A M (X + 358) σ ar ns hRM n hn hn20 hT (xs ((6 * j) + 1)) (xs ((6 * j) + 2))) (cwV 2 ht (gU uw_743 uw_744 uw_745 uw_42 uw_746) rfl rfl rfl (by decide +kernel) ⟨Nat.le_of_ble_eq_true rfl, Nat.le_of_ble_eq_true rfl⟩) hK hM hS (m_recv hK hM (hRM.1 (X + 358) (by omega) (by omega)) hRM.2.1 rfl) rfl hl.1 rfl (Nat.le_of_ble_eq_true rfl) dL_law_434 ⟨Nat.le_of_ble_eq_true rfl, Nat.le_of_ble_eq_true rfl⟩ (fun H locs hM hS => ?_)
      have hs9 := sim_same hRel hk0 hL0 (sim_runner R0 (by omega) (xs ((6 * j) + 1)) (xs ((6 * j) + 2)))
      refine lv_icmp_eq (tgt := 695) hx hb dL_law_437 (by decide) (fun c_437 => ?_) (fun c_437 => absurd (hs9.1) c_437)
      exact nxt _ _ _ _ _ _ _ _ hXS hRM hs9.2 hM hS (lv_sub hl [0, 1, 2, 3] rfl)
    by_cases s_33_10 : (sv9) = 10
    · refine lv_tableIn (tgt := 442) (off := 409) hx hb dL_law_33 (by rw [s_33_10]; decide) (by rw [s_33_10]; decide) (by rw [s_33_10]; rfl) (by decide) ?_
      refine lv_aload_n hx hb dL_law_442 rfl (lv_at hl 2 rfl) ?_
      refine lv_aload_n hx hb dL_law_443 rfl (lv_at hl 3 rfl) ?_
      refine lv_iload_n hx hb dL_law_444 rfl (lv_at hl 0 rfl) ?_
      refine lv_iconst (v := nI 1) hx hb dL_law_445 (by first | rfl | decide) ?_
      refine lv_iadd hx hb dL_law_446 ?_
      rw [nI_add ((6 * j)) (1)]
      refine va_sld hx hb hsc hbl hbA hS (vp_in_nI (by omega) (by omega)) dL_law_447 ?_
      rw [nI_clamp (by omega)]
      refine m_callRI (val := oCount (now, hs, k1, sl, sv, f1, L1) (xs ((6 * j) + 1))) (As := [.int (xs ((6 * j) + 1))]) (rest := []) ⟨hx, hb, hml, hown, ht⟩ (k_X7_count l g A M X now hs k1 sl sv f1 L1 hXS hCI (xs ((6 * j) + 1))) (cwV 1 ht (gU uw_502 uw_503 uw_504 uw_34 uw_505) rfl rfl rfl (by decide +kernel) ⟨Nat.le_of_ble_eq_true rfl, Nat.le_of_ble_eq_true rfl⟩) hK hM hS (m_recv hK hM hXS.ob.1 hXS.ob.2 rfl) rfl hl.1 rfl (Nat.le_of_ble_eq_true rfl) dL_law_448 ⟨Nat.le_of_ble_eq_true rfl, Nat.le_of_ble_eq_true rfl⟩ (fun H locs hM hS => ?_)
      refine lv_aload_n hx hb dL_law_451 rfl (lv_at hl 1 rfl) ?_
      refine lv_aload_n hx hb dL_law_452 rfl (lv_at hl 3 rfl) ?_
      refine lv_iload_n hx hb dL_law_453 rfl (lv_at hl 0 rfl) ?_
      refine lv_iconst (v := nI 1) hx hb dL_law_454 (by first | rfl | decide) ?_
      refine lv_iadd hx hb dL_law_455 ?_
      rw [nI_add ((6 * j)) (1)]
      refine va_sld hx hb hsc hbl hbA hS (vp_in_nI (by omega) (by omega)) dL_law_456 ?_
      rw [nI_clamp (by omega)]
      refine m_callRI (val := mCount σ ns (xs ((6 * j) + 1))) (As := [.int (xs ((6 * j) + 1))]) (rest := [.int (oCount (now, hs, k1, sl, sv, f1, L1) (xs ((6 * j) + 1)))]) ⟨hx, hb, hml, hown, ht⟩ (k_X8_count l g A M (X + 358) σ ar ns hRM  (xs ((6 * j) + 1))) (cwV 1 ht (gU uw_747 uw_748 uw_749 uw_42 uw_750) rfl rfl rfl (by decide +kernel) ⟨Nat.le_of_ble_eq_true rfl, Nat.le_of_ble_eq_true rfl⟩) hK hM hS (m_recv hK hM (hRM.1 (X + 358) (by omega) (by omega)) hRM.2.1 rfl) rfl hl.1 rfl (Nat.le_of_ble_eq_true rfl) dL_law_457 ⟨Nat.le_of_ble_eq_true rfl, Nat.le_of_ble_eq_true rfl⟩ (fun H locs hM hS => ?_)
      have hs9 := sim_same hRel hk0 hL0 (sim_count hRel R0 hk0 hL0 (xs ((6 * j) + 1)))
      refine lv_icmp_eq (tgt := 695) hx hb dL_law_460 (by decide) (fun c_460 => ?_) (fun c_460 => absurd (hs9.1) c_460)
      exact nxt _ _ _ _ _ _ _ _ hXS hRM hs9.2 hM hS (lv_sub hl [0, 1, 2, 3] rfl)
    by_cases s_33_11 : (sv9) = 11
    · refine lv_tableIn (tgt := 465) (off := 432) hx hb dL_law_33 (by rw [s_33_11]; decide) (by rw [s_33_11]; decide) (by rw [s_33_11]; rfl) (by decide) ?_
      refine lv_aload_n hx hb dL_law_465 rfl (lv_at hl 2 rfl) ?_
      refine lv_aload_n hx hb dL_law_466 rfl (lv_at hl 3 rfl) ?_
      refine lv_iload_n hx hb dL_law_467 rfl (lv_at hl 0 rfl) ?_
      refine lv_iconst (v := nI 1) hx hb dL_law_468 (by first | rfl | decide) ?_
      refine lv_iadd hx hb dL_law_469 ?_
      rw [nI_add ((6 * j)) (1)]
      refine va_sld hx hb hsc hbl hbA hS (vp_in_nI (by omega) (by omega)) dL_law_470 ?_
      rw [nI_clamp (by omega)]
      refine lv_aload_n hx hb dL_law_471 rfl (lv_at hl 3 rfl) ?_
      refine lv_iload_n hx hb dL_law_472 rfl (lv_at hl 0 rfl) ?_
      refine lv_iconst (v := nI 2) hx hb dL_law_473 (by first | rfl | decide) ?_
      refine lv_iadd hx hb dL_law_474 ?_
      rw [nI_add ((6 * j)) (2)]
      refine va_sld hx hb hsc hbl hbA hS (vp_in_nI (by omega) (by omega)) dL_law_475 ?_
      rw [nI_clamp (by omega)]
      refine m_callI (As := [.int (xs ((6 * j) + 1)), .int (xs ((6 * j) + 2))]) (rest := []) ⟨hx, hb, hml, hown, ht⟩ (k_X7_untilRound l g A M X now hs k1 sl sv f1 L1 hXS hCI (xs ((6 * j) + 1)) (xs ((6 * j) + 2))) (cwV 2 ht (gU uw_520 uw_521 uw_522 uw_34 uw_523) rfl rfl rfl (by decide +kernel) ⟨Nat.le_of_ble_eq_true rfl, Nat.le_of_ble_eq_true rfl⟩) hK hM hS (m_recv hK hM hXS.ob.1 hXS.ob.2 rfl) rfl hl.1 rfl (Nat.le_of_ble_eq_true rfl) dL_law_476 ⟨Nat.le_of_ble_eq_true rfl, Nat.le_of_ble_eq_true rfl⟩ (fun r9 M H locs hp hM hS => ?_)
      obtain ⟨⟨t9, e9⟩, hXS9⟩ := hp
      have hRM := hRM.agr (M1 := M) (fun q z1 z2 => hXS9.fr q (by omega))
      have hXS := hXS9.at
      rw [R0.onN] at e9
      refine lv_aload_n hx hb dL_law_479 rfl (lv_at hl 1 rfl) ?_
      refine lv_aload_n hx hb dL_law_480 rfl (lv_at hl 3 rfl) ?_
      refine lv_iload_n hx hb dL_law_481 rfl (lv_at hl 0 rfl) ?_
      refine lv_iconst (v := nI 1) hx hb dL_law_482 (by first | rfl | decide) ?_
      refine lv_iadd hx hb dL_law_483 ?_
      rw [nI_add ((6 * j)) (1)]
      refine va_sld hx hb hsc hbl hbA hS (vp_in_nI (by omega) (by omega)) dL_law_484 ?_
      rw [nI_clamp (by omega)]
      refine lv_aload_n hx hb dL_law_485 rfl (lv_at hl 3 rfl) ?_
      refine lv_iload_n hx hb dL_law_486 rfl (lv_at hl 0 rfl) ?_
      refine lv_iconst (v := nI 2) hx hb dL_law_487 (by first | rfl | decide) ?_
      refine lv_iadd hx hb dL_law_488 ?_
      rw [nI_add ((6 * j)) (2)]
      refine va_sld hx hb hsc hbl hbA hS (vp_in_nI (by omega) (by omega)) dL_law_489 ?_
      rw [nI_clamp (by omega)]
      refine m_callRI (val := mUntil σ (xs ((6 * j) + 1)) (xs ((6 * j) + 2))) (As := [.int (xs ((6 * j) + 1)), .int (xs ((6 * j) + 2))]) (rest := [.int (r9)]) ⟨hx, hb, hml, hown, ht⟩ (k_X8_untilRound l g A M (X + 358) σ ar ns hRM n hn hn20 hT (xs ((6 * j) + 1)) (xs ((6 * j) + 2))) (cwV 2 ht (gU uw_759 uw_760 uw_761 uw_42 uw_762) rfl rfl rfl (by decide +kernel) ⟨Nat.le_of_ble_eq_true rfl, Nat.le_of_ble_eq_true rfl⟩) hK hM hS (m_recv hK hM (hRM.1 (X + 358) (by omega) (by omega)) hRM.2.1 rfl) rfl hl.1 rfl (Nat.le_of_ble_eq_true rfl) dL_law_490 ⟨Nat.le_of_ble_eq_true rfl, Nat.le_of_ble_eq_true rfl⟩ (fun H locs hM hS => ?_)
      have hs9 := sim_same hRel hk0 hL0 (sim_until (R0.cpy t9) (xs ((6 * j) + 1)) (xs ((6 * j) + 2)))
      refine lv_icmp_eq (tgt := 695) hx hb dL_law_493 (by decide) (fun c_493 => ?_) (fun c_493 => absurd (e9.trans hs9.1) c_493)
      exact nxt _ _ _ _ _ _ _ _ hXS hRM hs9.2 hM hS (lv_sub hl [0, 1, 2, 3] rfl)
    by_cases s_33_12 : (sv9) = 12
    · refine lv_tableIn (tgt := 498) (off := 465) hx hb dL_law_33 (by rw [s_33_12]; decide) (by rw [s_33_12]; decide) (by rw [s_33_12]; rfl) (by decide) ?_
      refine lv_aload_n hx hb dL_law_498 rfl (lv_at hl 2 rfl) ?_
      refine lv_aload_n hx hb dL_law_499 rfl (lv_at hl 3 rfl) ?_
      refine lv_iload_n hx hb dL_law_500 rfl (lv_at hl 0 rfl) ?_
      refine lv_iconst (v := nI 1) hx hb dL_law_501 (by first | rfl | decide) ?_
      refine lv_iadd hx hb dL_law_502 ?_
      rw [nI_add ((6 * j)) (1)]
      refine va_sld hx hb hsc hbl hbA hS (vp_in_nI (by omega) (by omega)) dL_law_503 ?_
      rw [nI_clamp (by omega)]
      refine m_callI (As := [.int (xs ((6 * j) + 1))]) (rest := []) ⟨hx, hb, hml, hown, ht⟩ (k_X7_ifSent l g A M X now hs k1 sl sv f1 L1 hXS hCI (xs ((6 * j) + 1))) (cwV 1 ht (gU uw_530 uw_531 uw_532 uw_34 uw_533) rfl rfl rfl (by decide +kernel) ⟨Nat.le_of_ble_eq_true rfl, Nat.le_of_ble_eq_true rfl⟩) hK hM hS (m_recv hK hM hXS.ob.1 hXS.ob.2 rfl) rfl hl.1 rfl (Nat.le_of_ble_eq_true rfl) dL_law_504 ⟨Nat.le_of_ble_eq_true rfl, Nat.le_of_ble_eq_true rfl⟩ (fun r9 M H locs hp hM hS => ?_)
      obtain ⟨⟨t9, e9⟩, hXS9⟩ := hp
      have hRM := hRM.agr (M1 := M) (fun q z1 z2 => hXS9.fr q (by omega))
      have hXS := hXS9.at
      refine lv_aload_n hx hb dL_law_507 rfl (lv_at hl 1 rfl) ?_
      refine lv_aload_n hx hb dL_law_508 rfl (lv_at hl 3 rfl) ?_
      refine lv_iload_n hx hb dL_law_509 rfl (lv_at hl 0 rfl) ?_
      refine lv_iconst (v := nI 1) hx hb dL_law_510 (by first | rfl | decide) ?_
      refine lv_iadd hx hb dL_law_511 ?_
      rw [nI_add ((6 * j)) (1)]
      refine va_sld hx hb hsc hbl hbA hS (vp_in_nI (by omega) (by omega)) dL_law_512 ?_
      rw [nI_clamp (by omega)]
      refine m_callI (As := [.int (xs ((6 * j) + 1))]) (rest := [.int (r9)]) ⟨hx, hb, hml, hown, ht⟩ (k_X8_ifSent l g A M (X + 358) σ ar ns hRM n hn hn20 hT hc1 hc2 (xs ((6 * j) + 1))) (cwV 1 ht (gU uw_768 uw_769 uw_770 uw_42 uw_771) rfl rfl rfl (by decide +kernel) ⟨Nat.le_of_ble_eq_true rfl, Nat.le_of_ble_eq_true rfl⟩) hK hM hS (m_recv hK hM (hRM.1 (X + 358) (by omega) (by omega)) hRM.2.1 rfl) rfl hl.1 rfl (Nat.le_of_ble_eq_true rfl) dL_law_513 ⟨Nat.le_of_ble_eq_true rfl, Nat.le_of_ble_eq_true rfl⟩ (fun r8 M H locs hp hM hS => ?_)
      obtain ⟨e8, hRM, hF8⟩ := hp
      have hXS := hXS.agr (M1 := M) (fun q z1 z2 => hF8 q (by omega))
      have hs9 := simS hRel R0 hk0 hL0 t9 (xs ((6 * j) + 1))
      refine lv_icmp_eq (tgt := 695) hx hb dL_law_516 (by decide) (fun c_516 => ?_) (fun c_516 => absurd (e9.trans (hs9.1.trans e8.symm)) c_516)
      exact nxt _ _ _ _ _ _ _ _ hXS hRM hs9.2 hM hS (lv_sub hl [0, 1, 2, 3] rfl)
    by_cases s_33_13 : (sv9) = 13
    · refine lv_tableIn (tgt := 521) (off := 488) hx hb dL_law_33 (by rw [s_33_13]; decide) (by rw [s_33_13]; decide) (by rw [s_33_13]; rfl) (by decide) ?_
      refine lv_aload_n hx hb dL_law_521 rfl (lv_at hl 2 rfl) ?_
      refine lv_aload_n hx hb dL_law_522 rfl (lv_at hl 3 rfl) ?_
      refine lv_iload_n hx hb dL_law_523 rfl (lv_at hl 0 rfl) ?_
      refine lv_iconst (v := nI 1) hx hb dL_law_524 (by first | rfl | decide) ?_
      refine lv_iadd hx hb dL_law_525 ?_
      rw [nI_add ((6 * j)) (1)]
      refine va_sld hx hb hsc hbl hbA hS (vp_in_nI (by omega) (by omega)) dL_law_526 ?_
      rw [nI_clamp (by omega)]
      refine m_callI (As := [.int (xs ((6 * j) + 1))]) (rest := []) ⟨hx, hb, hml, hown, ht⟩ (k_X7_ifAllCome l g A M X now hs k1 sl sv f1 L1 hXS hCI (xs ((6 * j) + 1))) (cwV 1 ht (gU uw_534 uw_535 uw_536 uw_34 uw_537) rfl rfl rfl (by decide +kernel) ⟨Nat.le_of_ble_eq_true rfl, Nat.le_of_ble_eq_true rfl⟩) hK hM hS (m_recv hK hM hXS.ob.1 hXS.ob.2 rfl) rfl hl.1 rfl (Nat.le_of_ble_eq_true rfl) dL_law_527 ⟨Nat.le_of_ble_eq_true rfl, Nat.le_of_ble_eq_true rfl⟩ (fun r9 M H locs hp hM hS => ?_)
      obtain ⟨⟨t9, e9⟩, hXS9⟩ := hp
      have hRM := hRM.agr (M1 := M) (fun q z1 z2 => hXS9.fr q (by omega))
      have hXS := hXS9.at
      refine lv_aload_n hx hb dL_law_530 rfl (lv_at hl 1 rfl) ?_
      refine lv_aload_n hx hb dL_law_531 rfl (lv_at hl 3 rfl) ?_
      refine lv_iload_n hx hb dL_law_532 rfl (lv_at hl 0 rfl) ?_
      refine lv_iconst (v := nI 1) hx hb dL_law_533 (by first | rfl | decide) ?_
      refine lv_iadd hx hb dL_law_534 ?_
      rw [nI_add ((6 * j)) (1)]
      refine va_sld hx hb hsc hbl hbA hS (vp_in_nI (by omega) (by omega)) dL_law_535 ?_
      rw [nI_clamp (by omega)]
      obtain ⟨N9, hN1, hN2, hN3⟩ := sim_ifAll (ar := ar) (ns := ns) R0 (by omega)
      refine m_callI (As := [.int (xs ((6 * j) + 1))]) (rest := [.int (r9)]) ⟨hx, hb, hml, hown, ht⟩ (k_X8_ifAllCome l g A M (X + 358) σ ar ns hRM N9 ⟨n, hn20, hn, hT⟩ hN1 hN2 (xs ((6 * j) + 1))) (cwV 1 ht (gU uw_780 uw_781 uw_782 uw_42 uw_783) rfl rfl rfl (by decide +kernel) ⟨Nat.le_of_ble_eq_true rfl, Nat.le_of_ble_eq_true rfl⟩) hK hM hS (m_recv hK hM (hRM.1 (X + 358) (by omega) (by omega)) hRM.2.1 rfl) rfl hl.1 rfl (Nat.le_of_ble_eq_true rfl) dL_law_536 ⟨Nat.le_of_ble_eq_true rfl, Nat.le_of_ble_eq_true rfl⟩ (fun r8 M H locs hp hM hS => ?_)
      obtain ⟨e8, hRM, hF8⟩ := hp
      have hXS := hXS.agr (M1 := M) (fun q z1 z2 => hF8 q (by omega))
      have hs9 := simA hRel R0 hk0 hL0 t9 (xs ((6 * j) + 1)) (hN3 t9 (xs ((6 * j) + 1)))
      refine lv_icmp_eq (tgt := 695) hx hb dL_law_539 (by decide) (fun c_539 => ?_) (fun c_539 => absurd (e9.trans (hs9.1.trans e8.symm)) c_539)
      exact nxt _ _ _ _ _ _ _ _ hXS hRM hs9.2 hM hS (lv_sub hl [0, 1, 2, 3] rfl)
    by_cases s_33_14 : (sv9) = 14
    · refine lv_tableIn (tgt := 544) (off := 511) hx hb dL_law_33 (by rw [s_33_14]; decide) (by rw [s_33_14]; decide) (by rw [s_33_14]; rfl) (by decide) ?_
      refine lv_aload_n hx hb dL_law_544 rfl (lv_at hl 2 rfl) ?_
      refine m_callRI (val := mosL now 6) (As := []) (rest := []) ⟨hx, hb, hml, hown, ht⟩ (k_X7_mostUntold l g A M X now hs k1 sl sv f1 L1 hXS hCI) (cwV 0 ht (gU uw_545 uw_546 uw_547 uw_34 uw_548) rfl rfl rfl (by decide +kernel) ⟨Nat.le_of_ble_eq_true rfl, Nat.le_of_ble_eq_true rfl⟩) hK hM hS (m_recv hK hM hXS.ob.1 hXS.ob.2 rfl) rfl hl.1 rfl (Nat.le_of_ble_eq_true rfl) dL_law_545 ⟨Nat.le_of_ble_eq_true rfl, Nat.le_of_ble_eq_true rfl⟩ (fun H locs hM hS => ?_)
      refine lv_aload_n hx hb dL_law_548 rfl (lv_at hl 1 rfl) ?_
      refine m_callRI (val := foV (mouM σ 6)) (As := []) (rest := [.int (mosL now 6)]) ⟨hx, hb, hml, hown, ht⟩ (k_X8_mostUntold l g A M (X + 358) σ ar ns hRM) (cwV 0 ht (gU uw_784 uw_785 uw_786 uw_42 uw_787) rfl rfl rfl (by decide +kernel) ⟨Nat.le_of_ble_eq_true rfl, Nat.le_of_ble_eq_true rfl⟩) hK hM hS (m_recv hK hM (hRM.1 (X + 358) (by omega) (by omega)) hRM.2.1 rfl) rfl hl.1 rfl (Nat.le_of_ble_eq_true rfl) dL_law_549 ⟨Nat.le_of_ble_eq_true rfl, Nat.le_of_ble_eq_true rfl⟩ (fun H locs hM hS => ?_)
      have hs9 := sim_same hRel hk0 hL0 (sim_most R0)
      refine lv_icmp_eq (tgt := 695) hx hb dL_law_552 (by decide) (fun c_552 => ?_) (fun c_552 => absurd (hs9.1) c_552)
      exact nxt _ _ _ _ _ _ _ _ hXS hRM hs9.2 hM hS (lv_sub hl [0, 1, 2, 3] rfl)
    by_cases s_33_15 : (sv9) = 15
    · refine lv_tableIn (tgt := 557) (off := 524) hx hb dL_law_33 (by rw [s_33_15]; decide) (by rw [s_33_15]; decide) (by rw [s_33_15]; rfl) (by decide) ?_
      refine lv_aload_n hx hb dL_law_557 rfl (lv_at hl 2 rfl) ?_
      refine lv_aload_n hx hb dL_law_558 rfl (lv_at hl 3 rfl) ?_
      refine lv_iload_n hx hb dL_law_559 rfl (lv_at hl 0 rfl) ?_
      refine lv_iconst (v := nI 1) hx hb dL_law_560 (by first | rfl | decide) ?_
      refine lv_iadd hx hb dL_law_561 ?_
      rw [nI_add ((6 * j)) (1)]
      refine va_sld hx hb hsc hbl hbA hS (vp_in_nI (by omega) (by omega)) dL_law_562 ?_
      rw [nI_clamp (by omega)]
      refine lv_i2l (v := (xs ((6 * j) + 1)).toInt64) hx hb dL_law_563 rfl ?_
      refine lv_bipush (v := nI 32) hx hb dL_law_564 (by first | rfl | decide) ?_
      refine lv_lshl (v := ((xs ((6 * j) + 1)).toInt64) <<< ((nI 32).toInt64 &&& 63)) hx hb dL_law_566 rfl ?_
      refine lv_aload_n hx hb dL_law_567 rfl (lv_at hl 3 rfl) ?_
      refine lv_iload_n hx hb dL_law_568 rfl (lv_at hl 0 rfl) ?_
      refine lv_iconst (v := nI 2) hx hb dL_law_569 (by first | rfl | decide) ?_
      refine lv_iadd hx hb dL_law_570 ?_
      rw [nI_add ((6 * j)) (2)]
      refine va_sld hx hb hsc hbl hbA hS (vp_in_nI (by omega) (by omega)) dL_law_571 ?_
      rw [nI_clamp (by omega)]
      refine lv_i2l (v := (xs ((6 * j) + 2)).toInt64) hx hb dL_law_572 rfl ?_
      refine lv_ldc2 (v := 4294967295) hx hb hown (ht _ uw_817) dL_law_573 ?_
      refine lv_land hx hb dL_law_576 ?_
      refine lv_lor hx hb dL_law_577 ?_
      refine m_callI (As := [.long ((((xs ((6 * j) + 1)).toInt64) <<< ((nI 32).toInt64 &&& 63)) ||| (((xs ((6 * j) + 2)).toInt64) &&& (4294967295)))]) (rest := []) ⟨hx, hb, hml, hown, ht⟩ (k_X7_put l g A M X now hs k1 sl sv f1 L1 hXS hCI ((((xs ((6 * j) + 1)).toInt64) <<< ((nI 32).toInt64 &&& 63)) ||| (((xs ((6 * j) + 2)).toInt64) &&& (4294967295)))) (cwV 1 ht (gU uw_549 uw_550 uw_551 uw_34 uw_552) rfl rfl rfl (by decide +kernel) ⟨Nat.le_of_ble_eq_true rfl, Nat.le_of_ble_eq_true rfl⟩) hK hM hS (m_recv hK hM hXS.ob.1 hXS.ob.2 rfl) rfl hl.1 rfl (Nat.le_of_ble_eq_true rfl) dL_law_578 ⟨Nat.le_of_ble_eq_true rfl, Nat.le_of_ble_eq_true rfl⟩ (fun r9 M H locs hp hM hS => ?_)
      obtain ⟨e9, hXS9⟩ := hp
      have hRM := hRM.agr (M1 := M) (fun q z1 z2 => hXS9.fr q (by omega))
      have hXS := hXS9.at
      refine lv_aload_n hx hb dL_law_581 rfl (lv_at hl 1 rfl) ?_
      refine lv_aload_n hx hb dL_law_582 rfl (lv_at hl 3 rfl) ?_
      refine lv_iload_n hx hb dL_law_583 rfl (lv_at hl 0 rfl) ?_
      refine lv_iconst (v := nI 1) hx hb dL_law_584 (by first | rfl | decide) ?_
      refine lv_iadd hx hb dL_law_585 ?_
      rw [nI_add ((6 * j)) (1)]
      refine va_sld hx hb hsc hbl hbA hS (vp_in_nI (by omega) (by omega)) dL_law_586 ?_
      rw [nI_clamp (by omega)]
      refine lv_i2l (v := (xs ((6 * j) + 1)).toInt64) hx hb dL_law_587 rfl ?_
      refine lv_bipush (v := nI 32) hx hb dL_law_588 (by first | rfl | decide) ?_
      refine lv_lshl (v := ((xs ((6 * j) + 1)).toInt64) <<< ((nI 32).toInt64 &&& 63)) hx hb dL_law_590 rfl ?_
      refine lv_aload_n hx hb dL_law_591 rfl (lv_at hl 3 rfl) ?_
      refine lv_iload_n hx hb dL_law_592 rfl (lv_at hl 0 rfl) ?_
      refine lv_iconst (v := nI 2) hx hb dL_law_593 (by first | rfl | decide) ?_
      refine lv_iadd hx hb dL_law_594 ?_
      rw [nI_add ((6 * j)) (2)]
      refine va_sld hx hb hsc hbl hbA hS (vp_in_nI (by omega) (by omega)) dL_law_595 ?_
      rw [nI_clamp (by omega)]
      refine lv_i2l (v := (xs ((6 * j) + 2)).toInt64) hx hb dL_law_596 rfl ?_
      refine lv_ldc2 (v := 4294967295) hx hb hown (ht _ uw_817) dL_law_597 ?_
      refine lv_land hx hb dL_law_600 ?_
      refine lv_lor hx hb dL_law_601 ?_
      refine m_callI (As := [.long ((((xs ((6 * j) + 1)).toInt64) <<< ((nI 32).toInt64 &&& 63)) ||| (((xs ((6 * j) + 2)).toInt64) &&& (4294967295)))]) (rest := [.int (r9)]) ⟨hx, hb, hml, hown, ht⟩ (k_X8_put l g A M (X + 358) σ ar ns hRM l9 hL0 hL60 ((((xs ((6 * j) + 1)).toInt64) <<< ((nI 32).toInt64 &&& 63)) ||| (((xs ((6 * j) + 2)).toInt64) &&& (4294967295)))) (cwV 1 ht (gU uw_788 uw_789 uw_790 uw_42 uw_791) rfl rfl rfl (by decide +kernel) ⟨Nat.le_of_ble_eq_true rfl, Nat.le_of_ble_eq_true rfl⟩) hK hM hS (m_recv hK hM (hRM.1 (X + 358) (by omega) (by omega)) hRM.2.1 rfl) rfl hl.1 rfl (Nat.le_of_ble_eq_true rfl) dL_law_602 ⟨Nat.le_of_ble_eq_true rfl, Nat.le_of_ble_eq_true rfl⟩ (fun r8 M H locs hp hM hS => ?_)
      obtain ⟨p1, p2, p3⟩ := hp
      rcases put3 ((((xs ((6 * j) + 1)).toInt64) <<< ((nI 32).toInt64 &&& 63)) ||| (((xs ((6 * j) + 2)).toInt64) &&& (4294967295))) l9 with hc0 | ⟨hc0, hc1⟩ | ⟨hc0, hc1⟩
      · obtain ⟨e8, hRM, hF8⟩ := p1 hc0
        have hXS := hXS.agr (M1 := M) (fun q z1 z2 => hF8 q (by omega))
        have hs9 := sim_put1 hRel hk0 hL0 hc0
        refine lv_icmp_eq (tgt := 695) hx hb dL_law_605 (by decide) (fun c_605 => ?_) (fun c_605 => absurd (e9.trans (hs9.1.trans e8.symm)) c_605)
        exact nxt _ _ _ _ _ _ _ _ hXS hRM hs9.2 hM hS (lv_sub hl [0, 1, 2, 3] rfl)
      · obtain ⟨e8, hRM, hF8⟩ := p2 hc0 hc1
        have hXS := hXS.agr (M1 := M) (fun q z1 z2 => hF8 q (by omega))
        have hs9 := sim_put2 hRel hk0 hL0 hc0 hc1
        refine lv_icmp_eq (tgt := 695) hx hb dL_law_605 (by decide) (fun c_605 => ?_) (fun c_605 => absurd (e9.trans (hs9.1.trans e8.symm)) c_605)
        exact nxt _ _ _ _ _ _ _ _ hXS hRM hs9.2 hM hS (lv_sub hl [0, 1, 2, 3] rfl)
      · obtain ⟨e8, ns1, hRM, hF8, m0, m1⟩ := p3 hc0 hc1
        have hXS := hXS.agr (M1 := M) (fun q z1 z2 => hF8 q (by omega))
        have hs9 := sim_put3 hRel hc0 hc1 (m0.trans hk0) m1
        refine lv_icmp_eq (tgt := 695) hx hb dL_law_605 (by decide) (fun c_605 => ?_) (fun c_605 => absurd (e9.trans (hs9.1.trans e8.symm)) c_605)
        exact nxt _ _ _ _ _ _ _ _ hXS hRM hs9.2 hM hS (lv_sub hl [0, 1, 2, 3] rfl)
    by_cases s_33_16 : (sv9) = 16
    · refine lv_tableIn (tgt := 610) (off := 577) hx hb dL_law_33 (by rw [s_33_16]; decide) (by rw [s_33_16]; decide) (by rw [s_33_16]; rfl) (by decide) ?_
      refine lv_aload_n hx hb dL_law_610 rfl (lv_at hl 2 rfl) ?_
      refine m_callI (As := []) (rest := []) ⟨hx, hb, hml, hown, ht⟩ (k_X7_wipe l g A M X now hs k1 sl sv f1 L1 hXS hCI) (cwV 0 ht (gU uw_563 uw_564 uw_565 uw_34 uw_566) rfl rfl rfl (by decide +kernel) ⟨Nat.le_of_ble_eq_true rfl, Nat.le_of_ble_eq_true rfl⟩) hK hM hS (m_recv hK hM hXS.ob.1 hXS.ob.2 rfl) rfl hl.1 rfl (Nat.le_of_ble_eq_true rfl) dL_law_611 ⟨Nat.le_of_ble_eq_true rfl, Nat.le_of_ble_eq_true rfl⟩ (fun r9 M H locs hp hM hS => ?_)
      obtain ⟨e9, hXS9⟩ := hp
      have hRM := hRM.agr (M1 := M) (fun q z1 z2 => hXS9.fr q (by omega))
      have hXS := hXS9.at
      refine lv_aload_n hx hb dL_law_614 rfl (lv_at hl 1 rfl) ?_
      refine m_callI (As := []) (rest := [.int (r9)]) ⟨hx, hb, hml, hown, ht⟩ (k_X8_wipe l g A M (X + 358) σ ar ns hRM) (cwV 0 ht (gU uw_796 uw_797 uw_798 uw_42 uw_799) rfl rfl rfl (by decide +kernel) ⟨Nat.le_of_ble_eq_true rfl, Nat.le_of_ble_eq_true rfl⟩) hK hM hS (m_recv hK hM (hRM.1 (X + 358) (by omega) (by omega)) hRM.2.1 rfl) rfl hl.1 rfl (Nat.le_of_ble_eq_true rfl) dL_law_615 ⟨Nat.le_of_ble_eq_true rfl, Nat.le_of_ble_eq_true rfl⟩ (fun r8 M H locs hp hM hS => ?_)
      obtain ⟨e8, hRM, hF8⟩ := hp
      have hXS := hXS.agr (M1 := M) (fun q z1 z2 => hF8 q (by omega))
      have hs9 := sim_wipe hRel hk0 hL0 
      refine lv_icmp_eq (tgt := 695) hx hb dL_law_618 (by decide) (fun c_618 => ?_) (fun c_618 => absurd (e9.trans (hs9.1.trans e8.symm)) c_618)
      exact nxt _ _ _ _ _ _ _ _ hXS hRM hs9.2 hM hS (lv_sub hl [0, 1, 2, 3] rfl)
    by_cases s_33_17 : (sv9) = 17
    · refine lv_tableIn (tgt := 623) (off := 590) hx hb dL_law_33 (by rw [s_33_17]; decide) (by rw [s_33_17]; decide) (by rw [s_33_17]; rfl) (by decide) ?_
      refine lv_aload_n hx hb dL_law_623 rfl (lv_at hl 2 rfl) ?_
      refine m_callI (As := []) (rest := []) ⟨hx, hb, hml, hown, ht⟩ (k_X7_fault l g A M X now hs k1 sl sv f1 L1 hXS hCI) (cwV 0 ht (gU uw_567 uw_568 uw_569 uw_34 uw_570) rfl rfl rfl (by decide +kernel) ⟨Nat.le_of_ble_eq_true rfl, Nat.le_of_ble_eq_true rfl⟩) hK hM hS (m_recv hK hM hXS.ob.1 hXS.ob.2 rfl) rfl hl.1 rfl (Nat.le_of_ble_eq_true rfl) dL_law_624 ⟨Nat.le_of_ble_eq_true rfl, Nat.le_of_ble_eq_true rfl⟩ (fun r9 M H locs hp hM hS => ?_)
      obtain ⟨e9, hXS9⟩ := hp
      have hRM := hRM.agr (M1 := M) (fun q z1 z2 => hXS9.fr q (by omega))
      have hXS := hXS9.at
      refine lv_aload_n hx hb dL_law_627 rfl (lv_at hl 1 rfl) ?_
      refine m_callI (As := []) (rest := [.int (r9)]) ⟨hx, hb, hml, hown, ht⟩ (k_X8_fault l g A M (X + 358) σ ar ns hRM l9 hL0 hL60) (cwV 0 ht (gU uw_800 uw_801 uw_802 uw_42 uw_803) rfl rfl rfl (by decide +kernel) ⟨Nat.le_of_ble_eq_true rfl, Nat.le_of_ble_eq_true rfl⟩) hK hM hS (m_recv hK hM (hRM.1 (X + 358) (by omega) (by omega)) hRM.2.1 rfl) rfl hl.1 rfl (Nat.le_of_ble_eq_true rfl) dL_law_628 ⟨Nat.le_of_ble_eq_true rfl, Nat.le_of_ble_eq_true rfl⟩ (fun r8 M H locs hp hM hS => ?_)
      obtain ⟨e8, ns1, hRM, hF8, m0, m1⟩ := hp
      have hXS := hXS.agr (M1 := M) (fun q z1 z2 => hF8 q (by omega))
      have hs9 := sim_fault hRel (m0.trans hk0) (m1.trans hL0) 
      refine lv_icmp_eq (tgt := 695) hx hb dL_law_631 (by decide) (fun c_631 => ?_) (fun c_631 => absurd (e9.trans (hs9.1.trans e8.symm)) c_631)
      exact nxt _ _ _ _ _ _ _ _ hXS hRM hs9.2 hM hS (lv_sub hl [0, 1, 2, 3] rfl)
    by_cases s_33_18 : (sv9) = 18
    · refine lv_tableIn (tgt := 636) (off := 603) hx hb dL_law_33 (by rw [s_33_18]; decide) (by rw [s_33_18]; decide) (by rw [s_33_18]; rfl) (by decide) ?_
      refine lv_aload_n hx hb dL_law_636 rfl (lv_at hl 2 rfl) ?_
      refine m_callI (As := []) (rest := []) ⟨hx, hb, hml, hown, ht⟩ (k_X7_undo l g A M X now hs k1 sl sv f1 L1 hXS hCI) (cwV 0 ht (gU uw_571 uw_572 uw_573 uw_34 uw_574) rfl rfl rfl (by decide +kernel) ⟨Nat.le_of_ble_eq_true rfl, Nat.le_of_ble_eq_true rfl⟩) hK hM hS (m_recv hK hM hXS.ob.1 hXS.ob.2 rfl) rfl hl.1 rfl (Nat.le_of_ble_eq_true rfl) dL_law_637 ⟨Nat.le_of_ble_eq_true rfl, Nat.le_of_ble_eq_true rfl⟩ (fun r9 M H locs hp hM hS => ?_)
      obtain ⟨e9, hXS9⟩ := hp
      have hRM := hRM.agr (M1 := M) (fun q z1 z2 => hXS9.fr q (by omega))
      have hXS := hXS9.at
      refine lv_aload_n hx hb dL_law_640 rfl (lv_at hl 1 rfl) ?_
      refine m_callI (As := []) (rest := [.int (r9)]) ⟨hx, hb, hml, hown, ht⟩ (k_X8_undo l g A M (X + 358) σ ar ns hRM k9 hk6 hk0) (cwV 0 ht (gU uw_804 uw_805 uw_806 uw_42 uw_807) rfl rfl rfl (by decide +kernel) ⟨Nat.le_of_ble_eq_true rfl, Nat.le_of_ble_eq_true rfl⟩) hK hM hS (m_recv hK hM (hRM.1 (X + 358) (by omega) (by omega)) hRM.2.1 rfl) rfl hl.1 rfl (Nat.le_of_ble_eq_true rfl) dL_law_641 ⟨Nat.le_of_ble_eq_true rfl, Nat.le_of_ble_eq_true rfl⟩ (fun r8 M H locs hp hM hS => ?_)
      obtain ⟨e8, hRM, hF8⟩ := hp
      have hXS := hXS.agr (M1 := M) (fun q z1 z2 => hF8 q (by omega))
      have hs9 := sim_undo hRel hk0 hL0 
      refine lv_icmp_eq (tgt := 695) hx hb dL_law_644 (by decide) (fun c_644 => ?_) (fun c_644 => absurd (e9.trans (hs9.1.trans e8.symm)) c_644)
      exact nxt _ _ _ _ _ _ _ _ hXS hRM hs9.2 hM hS (lv_sub hl [0, 1, 2, 3] rfl)
    by_cases s_33_19 : (sv9) = 19
    · refine lv_tableIn (tgt := 649) (off := 616) hx hb dL_law_33 (by rw [s_33_19]; decide) (by rw [s_33_19]; decide) (by rw [s_33_19]; rfl) (by decide) ?_
      refine lv_aload_n hx hb dL_law_649 rfl (lv_at hl 2 rfl) ?_
      refine lv_aload_n hx hb dL_law_650 rfl (lv_at hl 3 rfl) ?_
      refine lv_iload_n hx hb dL_law_651 rfl (lv_at hl 0 rfl) ?_
      refine lv_iconst (v := nI 1) hx hb dL_law_652 (by first | rfl | decide) ?_
      refine lv_iadd hx hb dL_law_653 ?_
      rw [nI_add ((6 * j)) (1)]
      refine va_sld hx hb hsc hbl hbA hS (vp_in_nI (by omega) (by omega)) dL_law_654 ?_
      rw [nI_clamp (by omega)]
      refine m_callI (As := [.int (xs ((6 * j) + 1))]) (rest := []) ⟨hx, hb, hml, hown, ht⟩ (k_X7_save l g A M X now hs k1 sl sv f1 L1 hXS hCI (xs ((6 * j) + 1))) (cwV 1 ht (gU uw_580 uw_581 uw_582 uw_34 uw_583) rfl rfl rfl (by decide +kernel) ⟨Nat.le_of_ble_eq_true rfl, Nat.le_of_ble_eq_true rfl⟩) hK hM hS (m_recv hK hM hXS.ob.1 hXS.ob.2 rfl) rfl hl.1 rfl (Nat.le_of_ble_eq_true rfl) dL_law_655 ⟨Nat.le_of_ble_eq_true rfl, Nat.le_of_ble_eq_true rfl⟩ (fun r9 M H locs hp hM hS => ?_)
      obtain ⟨e9, hXS9⟩ := hp
      have hRM := hRM.agr (M1 := M) (fun q z1 z2 => hXS9.fr q (by omega))
      have hXS := hXS9.at
      refine lv_aload_n hx hb dL_law_658 rfl (lv_at hl 1 rfl) ?_
      refine lv_aload_n hx hb dL_law_659 rfl (lv_at hl 3 rfl) ?_
      refine lv_iload_n hx hb dL_law_660 rfl (lv_at hl 0 rfl) ?_
      refine lv_iconst (v := nI 1) hx hb dL_law_661 (by first | rfl | decide) ?_
      refine lv_iadd hx hb dL_law_662 ?_
      rw [nI_add ((6 * j)) (1)]
      refine va_sld hx hb hsc hbl hbA hS (vp_in_nI (by omega) (by omega)) dL_law_663 ?_
      rw [nI_clamp (by omega)]
      refine m_callI (As := [.int (xs ((6 * j) + 1))]) (rest := [.int (r9)]) ⟨hx, hb, hml, hown, ht⟩ (k_X8_save l g A M (X + 358) σ ar ns hRM  (xs ((6 * j) + 1))) (cwV 1 ht (gU uw_809 uw_810 uw_811 uw_42 uw_812) rfl rfl rfl (by decide +kernel) ⟨Nat.le_of_ble_eq_true rfl, Nat.le_of_ble_eq_true rfl⟩) hK hM hS (m_recv hK hM (hRM.1 (X + 358) (by omega) (by omega)) hRM.2.1 rfl) rfl hl.1 rfl (Nat.le_of_ble_eq_true rfl) dL_law_664 ⟨Nat.le_of_ble_eq_true rfl, Nat.le_of_ble_eq_true rfl⟩ (fun r8 M H locs hp hM hS => ?_)
      obtain ⟨e8, hRM, hF8⟩ := hp
      have hXS := hXS.agr (M1 := M) (fun q z1 z2 => hF8 q (by omega))
      have hs9 := sim_save hRel R0 hh hk0 hL0 (xs ((6 * j) + 1))
      refine lv_icmp_eq (tgt := 695) hx hb dL_law_667 (by decide) (fun c_667 => ?_) (fun c_667 => absurd (e9.trans (hs9.1.trans e8.symm)) c_667)
      exact nxt _ _ _ _ _ _ _ _ hXS hRM hs9.2 hM hS (lv_sub hl [0, 1, 2, 3] rfl)
    by_cases s_33_20 : (sv9) = 20
    · refine lv_tableIn (tgt := 672) (off := 639) hx hb dL_law_33 (by rw [s_33_20]; decide) (by rw [s_33_20]; decide) (by rw [s_33_20]; rfl) (by decide) ?_
      refine lv_aload_n hx hb dL_law_672 rfl (lv_at hl 2 rfl) ?_
      refine lv_aload_n hx hb dL_law_673 rfl (lv_at hl 3 rfl) ?_
      refine lv_iload_n hx hb dL_law_674 rfl (lv_at hl 0 rfl) ?_
      refine lv_iconst (v := nI 1) hx hb dL_law_675 (by first | rfl | decide) ?_
      refine lv_iadd hx hb dL_law_676 ?_
      rw [nI_add ((6 * j)) (1)]
      refine va_sld hx hb hsc hbl hbA hS (vp_in_nI (by omega) (by omega)) dL_law_677 ?_
      rw [nI_clamp (by omega)]
      refine m_callI (As := [.int (xs ((6 * j) + 1))]) (rest := []) ⟨hx, hb, hml, hown, ht⟩ (k_X7_restore l g A M X now hs k1 sl sv f1 L1 hXS hCI (xs ((6 * j) + 1))) (cwV 1 ht (gU uw_584 uw_585 uw_586 uw_34 uw_587) rfl rfl rfl (by decide +kernel) ⟨Nat.le_of_ble_eq_true rfl, Nat.le_of_ble_eq_true rfl⟩) hK hM hS (m_recv hK hM hXS.ob.1 hXS.ob.2 rfl) rfl hl.1 rfl (Nat.le_of_ble_eq_true rfl) dL_law_678 ⟨Nat.le_of_ble_eq_true rfl, Nat.le_of_ble_eq_true rfl⟩ (fun r9 M H locs hp hM hS => ?_)
      obtain ⟨e9, hXS9⟩ := hp
      have hRM := hRM.agr (M1 := M) (fun q z1 z2 => hXS9.fr q (by omega))
      have hXS := hXS9.at
      refine lv_aload_n hx hb dL_law_681 rfl (lv_at hl 1 rfl) ?_
      refine lv_aload_n hx hb dL_law_682 rfl (lv_at hl 3 rfl) ?_
      refine lv_iload_n hx hb dL_law_683 rfl (lv_at hl 0 rfl) ?_
      refine lv_iconst (v := nI 1) hx hb dL_law_684 (by first | rfl | decide) ?_
      refine lv_iadd hx hb dL_law_685 ?_
      rw [nI_add ((6 * j)) (1)]
      refine va_sld hx hb hsc hbl hbA hS (vp_in_nI (by omega) (by omega)) dL_law_686 ?_
      rw [nI_clamp (by omega)]
      refine m_callI (As := [.int (xs ((6 * j) + 1))]) (rest := [.int (r9)]) ⟨hx, hb, hml, hown, ht⟩ (k_X8_restore l g A M (X + 358) σ ar ns hRM k9 hk6 hk0 (xs ((6 * j) + 1))) (cwV 1 ht (gU uw_813 uw_814 uw_815 uw_42 uw_816) rfl rfl rfl (by decide +kernel) ⟨Nat.le_of_ble_eq_true rfl, Nat.le_of_ble_eq_true rfl⟩) hK hM hS (m_recv hK hM (hRM.1 (X + 358) (by omega) (by omega)) hRM.2.1 rfl) rfl hl.1 rfl (Nat.le_of_ble_eq_true rfl) dL_law_687 ⟨Nat.le_of_ble_eq_true rfl, Nat.le_of_ble_eq_true rfl⟩ (fun r8 M H locs hp hM hS => ?_)
      obtain ⟨e8, hRM, hF8⟩ := hp
      have hXS := hXS.agr (M1 := M) (fun q z1 z2 => hF8 q (by omega))
      have hs9 := sim_restore hRel R0 hk0 hL0 (xs ((6 * j) + 1))
      refine lv_icmp_eq (tgt := 695) hx hb dL_law_690 (by decide) (fun c_690 => ?_) (fun c_690 => absurd (e9.trans (hs9.1.trans e8.symm)) c_690)
      exact nxt _ _ _ _ _ _ _ _ hXS hRM hs9.2 hM hS (lv_sub hl [0, 1, 2, 3] rfl)
    exfalso
    have n_0 := lv_neT (a := 0) s_33_0 (by decide)
    have n_1 := lv_neT (a := 1) s_33_1 (by decide)
    have n_2 := lv_neT (a := 2) s_33_2 (by decide)
    have n_3 := lv_neT (a := 3) s_33_3 (by decide)
    have n_4 := lv_neT (a := 4) s_33_4 (by decide)
    have n_5 := lv_neT (a := 5) s_33_5 (by decide)
    have n_6 := lv_neT (a := 6) s_33_6 (by decide)
    have n_7 := lv_neT (a := 7) s_33_7 (by decide)
    have n_8 := lv_neT (a := 8) s_33_8 (by decide)
    have n_9 := lv_neT (a := 9) s_33_9 (by decide)
    have n_10 := lv_neT (a := 10) s_33_10 (by decide)
    have n_11 := lv_neT (a := 11) s_33_11 (by decide)
    have n_12 := lv_neT (a := 12) s_33_12 (by decide)
    have n_13 := lv_neT (a := 13) s_33_13 (by decide)
    have n_14 := lv_neT (a := 14) s_33_14 (by decide)
    have n_15 := lv_neT (a := 15) s_33_15 (by decide)
    have n_16 := lv_neT (a := 16) s_33_16 (by decide)
    have n_17 := lv_neT (a := 17) s_33_17 (by decide)
    have n_18 := lv_neT (a := 18) s_33_18 (by decide)
    have n_19 := lv_neT (a := 19) s_33_19 (by decide)
    have n_20 := lv_neT (a := 20) s_33_20 (by decide)
    omega
