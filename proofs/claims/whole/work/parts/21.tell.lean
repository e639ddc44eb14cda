def TB (σ : Nat → Int32) (i : Nat) (x c : Int32) : Prop := (∃ w0, 4 ≤ w0 ∧ w0 ≤ 60 ∧ σ 102 = nI w0) ∧ ¬ σ (17 * 0 + 0) = 0 ∧ ¬ σ (17 * i + 1) = 0 ∧ -1000 ≤ (tel2 σ i x).toInt ∧ (tel2 σ i x).toInt ≤ 1000 ∧ -500000000 ≤ (telE σ i c).toInt ∧ (telE σ i c).toInt ≤ 500000000
section
variable {σ : Nat → Int32} {i : Nat} {x h t c9 : Int32}
theorem tel_late (q : h < σ (17 * i + 9)) : telC σ i x h t c9 = va_up σ (17 * i + 14) (σ (17 * i + 14) + 1) := if_pos q
theorem tel_twice (q : σ (17 * i + 9) ≤ h) (q2 : h = σ (17 * i + 9)) (q3 : x = σ (17 * i + 10)) (q4 : 0 < σ (17 * i + 13)) : telC σ i x h t c9 = va_up σ (17 * i + 15) (σ (17 * i + 15) + 1) := (if_neg (Int32.not_lt.mpr q)).trans (if_pos ⟨q2, q3, q4⟩)
theorem tel_take (q : σ (17 * i + 9) ≤ h) (q2 : ¬ (h = σ (17 * i + 9) ∧ x = σ (17 * i + 10) ∧ 0 < σ (17 * i + 13))) : telC σ i x h t c9 = telT σ i x h t c9 := (if_neg (Int32.not_lt.mpr q)).trans (if_neg q2)
theorem tel_take1 (q : σ (17 * i + 9) ≤ h) (q2 : ¬ h = σ (17 * i + 9)) : telC σ i x h t c9 = telT σ i x h t c9 := tel_take q (fun z => q2 z.1)
theorem tel_take2 (q : σ (17 * i + 9) ≤ h) (q2 : ¬ x = σ (17 * i + 10)) : telC σ i x h t c9 = telT σ i x h t c9 := tel_take q (fun z => q2 z.2.1)
theorem tel_take3 (q : σ (17 * i + 9) ≤ h) (q2 : σ (17 * i + 13) ≤ 0) : telC σ i x h t c9 = telT σ i x h t c9 := tel_take q (fun z => Int32.not_lt.mpr q2 z.2.2)
theorem tel_T {y : Int32} (e : telC σ i x h t c9 = telT σ i x h t c9) (e2 : tel3 σ i x c9 = y) : telC σ i x h t c9 = va_up (va_up (va_up (va_up (va_up (va_up σ (17 * i + 8) (σ (17 * i + 8) + y)) (17 * i + 13) (va_up σ (17 * i + 8) (σ (17 * i + 8) + y) (17 * i + 13) + 1)) (17 * i + 9) h) (17 * i + 10) x) (17 * i + 11) t) (17 * i + 12) c9 := by
  rw [e]
  unfold telT
  rw [e2]
end
set_option maxHeartbeats 4000000 in
set_option maxRecDepth 100000 in
/-- tell -/
theorem k_X8_tell (l : Launch) (g : GG) (A : Nat → Prop) (M0 : MM) (Y : Nat) (σ : Nat → Int32) (ar : Nat → Nat → Int32) (ns : Nat → Int32) (hR : RepM g A M0 Y σ ar ns) (i : Nat) (x h t c9 : Int32) (hi : i < 6) (hB : TB σ i x c9)  : Met l yX8_tell (Uw yX8_tell cX8_tell 8 (Option.none : Option ClassFile.FieldType)) (rmD 1) (PreM [.ref (Y), .int (nI i), .int (x), .int (h), .int (t), .int (c9)] g A M0) (PosV (fun M1 => RepM g A M1 Y (telC σ i x h t c9) (ar) (ns) ∧ FrM Y M0 M1) g A) 0 0 A := by
  refine mk_Met (own := RX8) rfl rfl (by decide) (Nat.le_of_ble_eq_true rfl) ?_
  intro p e s m below meth c ls aa Q haa hQ hx hb hr hlk hml hown hts hK hM hS hl hnm
  obtain ⟨M, hMM⟩ : ∃ M, M = M0 := ⟨_, rfl⟩
  rw [← hMM] at hM hR
  have ht : ∀ w ∈ lw_good, w.before _ s = true := fun w h => hts w (List.mem_cons_of_mem _ h)
  have hF : FrM Y M0 M := by rw [hMM]; exact FrM.rf
  have hl : lv_has ls 8 [(0, .ref (Y)), (1, .int (nI i)), (2, .int (x)), (3, .int (h)), (4, .int (t)), (5, .int (c9))] := hl
  obtain ⟨⟨W0, hW4, hW60, hW⟩, hm0, hcu, ha1, ha2, he1, he2⟩ := hB
  refine lv_iload_n hx hb dX8_tell_0 rfl (lv_at hl 3 rfl) ?_
  refine lv_aload_n hx hb dX8_tell_1 rfl (lv_at hl 0 rfl) ?_
  refine lv_iload_n hx hb dX8_tell_2 rfl (lv_at hl 1 rfl) ?_
  refine lv_bipush (v := nI 9) hx hb dX8_tell_3 (by first | rfl | decide) ?_
  refine m_callRI (val := σ (17 * i + 9)) (As := [.int (nI i), .int (nI 9)]) (rest := [.int (h)]) ⟨hx, hb, hml, hown, ht⟩ (k_X8_of l g A M Y σ ar ns hR i 9 (by omega)) (cwV 2 ht (gU uw_650 uw_652 uw_15 uw_42 uw_653) rfl rfl rfl (by decide +kernel) ⟨by decide, by decide⟩) hK hM hS (m_recv hK hM (hR.1 Y (by omega) (by omega)) hR.2.1 rfl) rfl hl.1 rfl (Nat.le_of_ble_eq_true rfl) dX8_tell_5 ⟨by decide, by decide⟩ (fun H locs hM hS => ?_)
  refine lv_icmp_ge (tgt := 20) hx hb dX8_tell_8 (by decide) (fun c_8 => ?_) (fun c_8 => ?_)
  · refine lv_iload_n hx hb dX8_tell_20 rfl (lv_at hl 3 rfl) ?_
    refine lv_aload_n hx hb dX8_tell_21 rfl (lv_at hl 0 rfl) ?_
    refine lv_iload_n hx hb dX8_tell_22 rfl (lv_at hl 1 rfl) ?_
    refine lv_bipush (v := nI 9) hx hb dX8_tell_23 (by first | rfl | decide) ?_
    refine m_callRI (val := σ (17 * i + 9)) (As := [.int (nI i), .int (nI 9)]) (rest := [.int (h)]) ⟨hx, hb, hml, hown, ht⟩ (k_X8_of l g A M Y σ ar ns hR i 9 (by omega)) (cwV 2 ht (gU uw_650 uw_652 uw_15 uw_42 uw_653) rfl rfl rfl (by decide +kernel) ⟨by decide, by decide⟩) hK hM hS (m_recv hK hM (hR.1 Y (by omega) (by omega)) hR.2.1 rfl) rfl hl.1 rfl (Nat.le_of_ble_eq_true rfl) dX8_tell_25 ⟨by decide, by decide⟩ (fun H locs hM hS => ?_)
    refine lv_icmp_ne (tgt := 61) hx hb dX8_tell_28 (by decide) (fun c_28 => ?_) (fun c_28 => ?_)
    · refine lv_iload_n hx hb dX8_tell_61 rfl (lv_at hl 2 rfl) ?_
      refine lv_aload_n hx hb dX8_tell_62 rfl (lv_at hl 0 rfl) ?_
      refine lv_iload_n hx hb dX8_tell_63 rfl (lv_at hl 1 rfl) ?_
      refine lv_bipush (v := nI 10) hx hb dX8_tell_64 (by first | rfl | decide) ?_
      refine m_callRI (val := σ (17 * i + 10)) (As := [.int (nI i), .int (nI 10)]) (rest := [.int (x)]) ⟨hx, hb, hml, hown, ht⟩ (k_X8_of l g A M Y σ ar ns hR i 10 (by omega)) (cwV 2 ht (gU uw_650 uw_652 uw_15 uw_42 uw_653) rfl rfl rfl (by decide +kernel) ⟨by decide, by decide⟩) hK hM hS (m_recv hK hM (hR.1 Y (by omega) (by omega)) hR.2.1 rfl) rfl hl.1 rfl (Nat.le_of_ble_eq_true rfl) dX8_tell_66 ⟨by decide, by decide⟩ (fun H locs hM hS => ?_)
      refine lv_isub hx hb dX8_tell_69 ?_
      refine lv_topi (fun n1 e_n1 => ?_)
      refine lv_istore (lv' := [(6, .int (n1)), (0, .ref (Y)), (1, .int (nI i)), (2, .int (x)), (3, .int (h)), (4, .int (t)), (5, .int (c9))]) hx hb dX8_tell_70 hl (by decide) rfl (fun ls hl => ?_)
      refine lv_iload hx hb dX8_tell_72 (lv_at hl 0 rfl) ?_
      refine lv_iload hx hb dX8_tell_74 (lv_at hl 0 rfl) ?_
      refine lv_if_ge (tgt := 89) hx hb dX8_tell_76 (by decide) (fun c_76 => ?_) (fun c_76 => ?_)
      · refine lv_iconst (v := nI 0) hx hb dX8_tell_89 (by first | rfl | decide) ?_
        refine lv_iadd hx hb dX8_tell_90 ?_
        refine lv_topi (fun n2 e_n2 => ?_)
        refine lv_istore (lv' := [(6, .int (n2)), (0, .ref (Y)), (1, .int (nI i)), (2, .int (x)), (3, .int (h)), (4, .int (t)), (5, .int (c9))]) hx hb dX8_tell_91 hl (by decide) rfl (fun ls hl => ?_)
        have e_n2 : n2 = tel2 σ i x := e_n2.trans (by rw [e_n1]; exact (if_neg (by rw [← e_n1]; exact Int32.not_lt.mpr c_76)).symm)
        refine lv_aload_n hx hb dX8_tell_93 rfl (lv_at hl 1 rfl) ?_
        refine rm_getS hx hb ht ui_X8 hown hK hM hR (ht _ uw_594) dX8_tell_94 ?_
        refine lv_bipush (v := nI 103) hx hb dX8_tell_97 (by first | rfl | decide) ?_
        refine rm_sald hx hb hK hM hR (i := 103) (by omega) dX8_tell_99 ?_
        refine lv_iconst (v := nI 1) hx hb dX8_tell_100 (by first | rfl | decide) ?_
        refine lv_icmp_ne (tgt := 179) hx hb dX8_tell_101 (by decide) (fun c_101 => ?_) (fun c_101 => ?_)
        · refine lv_aload_n hx hb dX8_tell_179 rfl (lv_at hl 1 rfl) ?_
          refine lv_iload_n hx hb dX8_tell_180 rfl (lv_at hl 2 rfl) ?_
          refine lv_bipush (v := nI 8) hx hb dX8_tell_181 (by first | rfl | decide) ?_
          refine lv_iload hx hb dX8_tell_183 (lv_at hl 0 rfl) ?_
          refine m_callV (As := [.int (nI i), .int (nI 8), .int (n2)]) (rest := []) ⟨hx, hb, hml, hown, ht⟩ (k_X8_add l g A M Y σ ar ns hR i 8 (n2) (by omega)) (cwV 3 ht (gU uw_642 uw_644 uw_13 uw_42 uw_645) rfl rfl rfl (by decide +kernel) ⟨by decide, by decide⟩) hK hM hS (m_recv hK hM (hR.1 Y (by omega) (by omega)) hR.2.1 rfl) rfl hl.1 rfl (Nat.le_of_ble_eq_true rfl) dX8_tell_185 ⟨by decide, by decide⟩ (fun M H locs hp hM hS => ?_)
          obtain ⟨hR, hF1⟩ := hp
          have hF := hF.tr hF1
          refine lv_aload_n hx hb dX8_tell_188 rfl (lv_at hl 1 rfl) ?_
          refine lv_iload_n hx hb dX8_tell_189 rfl (lv_at hl 2 rfl) ?_
          refine lv_bipush (v := nI 13) hx hb dX8_tell_190 (by first | rfl | decide) ?_
          refine lv_iconst (v := nI 1) hx hb dX8_tell_192 (by first | rfl | decide) ?_
          refine m_callV (As := [.int (nI i), .int (nI 13), .int (nI 1)]) (rest := []) ⟨hx, hb, hml, hown, ht⟩ (k_X8_add l g A M Y (va_up σ (17 * i + 8) (σ (17 * i + 8) + (n2))) ar ns hR i 13 (nI 1) (by omega)) (cwV 3 ht (gU uw_642 uw_644 uw_13 uw_42 uw_645) rfl rfl rfl (by decide +kernel) ⟨by decide, by decide⟩) hK hM hS (m_recv hK hM (hR.1 Y (by omega) (by omega)) hR.2.1 rfl) rfl hl.1 rfl (Nat.le_of_ble_eq_true rfl) dX8_tell_193 ⟨by decide, by decide⟩ (fun M H locs hp hM hS => ?_)
          obtain ⟨hR, hF1⟩ := hp
          have hF := hF.tr hF1
          refine lv_aload_n hx hb dX8_tell_196 rfl (lv_at hl 1 rfl) ?_
          refine rm_getS hx hb ht ui_X8 hown hK hM hR (ht _ uw_594) dX8_tell_197 ?_
          refine lv_bipush (v := nI 17) hx hb dX8_tell_200 (by first | rfl | decide) ?_
          refine lv_iload_n hx hb dX8_tell_202 rfl (lv_at hl 2 rfl) ?_
          refine lv_imul hx hb dX8_tell_203 ?_
          rw [pk_mul (17) (i)]
          refine lv_bipush (v := nI 9) hx hb dX8_tell_204 (by first | rfl | decide) ?_
          refine lv_iadd hx hb dX8_tell_206 ?_
          rw [nI_add ((17 * i)) (9)]
          refine lv_iload_n hx hb dX8_tell_207 rfl (lv_at hl 4 rfl) ?_
          refine rm_sast hx hb hK hM hS hR hF (i := ((17 * i) + 9)) (by omega) dX8_tell_208 (fun M H locs hM hR hF hS => ?_)
          refine lv_aload_n hx hb dX8_tell_209 rfl (lv_at hl 1 rfl) ?_
          refine rm_getS hx hb ht ui_X8 hown hK hM hR (ht _ uw_594) dX8_tell_210 ?_
          refine lv_bipush (v := nI 17) hx hb dX8_tell_213 (by first | rfl | decide) ?_
          refine lv_iload_n hx hb dX8_tell_215 rfl (lv_at hl 2 rfl) ?_
          refine lv_imul hx hb dX8_tell_216 ?_
          rw [pk_mul (17) (i)]
          refine lv_bipush (v := nI 10) hx hb dX8_tell_217 (by first | rfl | decide) ?_
          refine lv_iadd hx hb dX8_tell_219 ?_
          rw [nI_add ((17 * i)) (10)]
          refine lv_iload_n hx hb dX8_tell_220 rfl (lv_at hl 3 rfl) ?_
          refine rm_sast hx hb hK hM hS hR hF (i := ((17 * i) + 10)) (by omega) dX8_tell_221 (fun M H locs hM hR hF hS => ?_)
          refine lv_aload_n hx hb dX8_tell_222 rfl (lv_at hl 1 rfl) ?_
          refine rm_getS hx hb ht ui_X8 hown hK hM hR (ht _ uw_594) dX8_tell_223 ?_
          refine lv_bipush (v := nI 17) hx hb dX8_tell_226 (by first | rfl | decide) ?_
          refine lv_iload_n hx hb dX8_tell_228 rfl (lv_at hl 2 rfl) ?_
          refine lv_imul hx hb dX8_tell_229 ?_
          rw [pk_mul (17) (i)]
          refine lv_bipush (v := nI 11) hx hb dX8_tell_230 (by first | rfl | decide) ?_
          refine lv_iadd hx hb dX8_tell_232 ?_
          rw [nI_add ((17 * i)) (11)]
          refine lv_iload hx hb dX8_tell_233 (lv_at hl 5 rfl) ?_
          refine rm_sast hx hb hK hM hS hR hF (i := ((17 * i) + 11)) (by omega) dX8_tell_235 (fun M H locs hM hR hF hS => ?_)
          refine lv_aload_n hx hb dX8_tell_236 rfl (lv_at hl 1 rfl) ?_
          refine rm_getS hx hb ht ui_X8 hown hK hM hR (ht _ uw_594) dX8_tell_237 ?_
          refine lv_bipush (v := nI 17) hx hb dX8_tell_240 (by first | rfl | decide) ?_
          refine lv_iload_n hx hb dX8_tell_242 rfl (lv_at hl 2 rfl) ?_
          refine lv_imul hx hb dX8_tell_243 ?_
          rw [pk_mul (17) (i)]
          refine lv_bipush (v := nI 12) hx hb dX8_tell_244 (by first | rfl | decide) ?_
          refine lv_iadd hx hb dX8_tell_246 ?_
          rw [nI_add ((17 * i)) (12)]
          refine lv_iload hx hb dX8_tell_247 (lv_at hl 6 rfl) ?_
          refine rm_sast hx hb hK hM hS hR hF (i := ((17 * i) + 12)) (by omega) dX8_tell_249 (fun M H locs hM hR hF hS => ?_)
          subst hQ
          exact m_vret hx hb hr hlk hK hM hS dX8_tell_250 (⟨hR.eqv (tel_T (by first | exact tel_take1 c_8 c_28 | exact tel_take2 c_8 c_39 | exact tel_take3 c_8 c_49) (show tel3 σ i x c9 = n2 from (if_neg c_101).trans e_n2.symm)) rfl rfl, hF⟩)
        · refine lv_iload hx hb dX8_tell_104 (lv_at hl 6 rfl) ?_
          refine lv_aload_n hx hb dX8_tell_106 rfl (lv_at hl 1 rfl) ?_
          refine lv_iload_n hx hb dX8_tell_107 rfl (lv_at hl 2 rfl) ?_
          refine lv_bipush (v := nI 12) hx hb dX8_tell_108 (by first | rfl | decide) ?_
          refine m_callRI (val := σ (17 * i + 12)) (As := [.int (nI i), .int (nI 12)]) (rest := [.int (c9)]) ⟨hx, hb, hml, hown, ht⟩ (k_X8_of l g A M Y σ ar ns hR i 12 (by omega)) (cwV 2 ht (gU uw_650 uw_652 uw_15 uw_42 uw_653) rfl rfl rfl (by decide +kernel) ⟨by decide, by decide⟩) hK hM hS (m_recv hK hM (hR.1 Y (by omega) (by omega)) hR.2.1 rfl) rfl hl.1 rfl (Nat.le_of_ble_eq_true rfl) dX8_tell_110 ⟨by decide, by decide⟩ (fun H locs hM hS => ?_)
          refine lv_isub hx hb dX8_tell_113 ?_
          refine lv_aload_n hx hb dX8_tell_114 rfl (lv_at hl 1 rfl) ?_
          refine lv_iload_n hx hb dX8_tell_115 rfl (lv_at hl 2 rfl) ?_
          refine lv_iconst (v := nI 0) hx hb dX8_tell_116 (by first | rfl | decide) ?_
          refine m_callRI (val := σ (17 * i + 0)) (As := [.int (nI i), .int (nI 0)]) (rest := [.int ((c9) - (σ (17 * i + 12)))]) ⟨hx, hb, hml, hown, ht⟩ (k_X8_of l g A M Y σ ar ns hR i 0 (by omega)) (cwV 2 ht (gU uw_650 uw_652 uw_15 uw_42 uw_653) rfl rfl rfl (by decide +kernel) ⟨by decide, by decide⟩) hK hM hS (m_recv hK hM (hR.1 Y (by omega) (by omega)) hR.2.1 rfl) rfl hl.1 rfl (Nat.le_of_ble_eq_true rfl) dX8_tell_117 ⟨by decide, by decide⟩ (fun H locs hM hS => ?_)
          refine lv_imul hx hb dX8_tell_120 ?_
          refine lv_aload_n hx hb dX8_tell_121 rfl (lv_at hl 1 rfl) ?_
          refine lv_iconst (v := nI 0) hx hb dX8_tell_122 (by first | rfl | decide) ?_
          refine lv_iconst (v := nI 0) hx hb dX8_tell_123 (by first | rfl | decide) ?_
          refine m_callRI (val := σ (17 * 0 + 0)) (As := [.int (nI 0), .int (nI 0)]) (rest := [.int (((c9) - (σ (17 * i + 12))) * (σ (17 * i + 0)))]) ⟨hx, hb, hml, hown, ht⟩ (k_X8_of l g A M Y σ ar ns hR 0 0 (by omega)) (cwV 2 ht (gU uw_650 uw_652 uw_15 uw_42 uw_653) rfl rfl rfl (by decide +kernel) ⟨by decide, by decide⟩) hK hM hS (m_recv hK hM (hR.1 Y (by omega) (by omega)) hR.2.1 rfl) rfl hl.1 rfl (Nat.le_of_ble_eq_true rfl) dX8_tell_124 ⟨by decide, by decide⟩ (fun H locs hM hS => ?_)
          refine lv_idiv hx hb dX8_tell_127 (hm0) ?_
          refine lv_aload_n hx hb dX8_tell_128 rfl (lv_at hl 1 rfl) ?_
          refine lv_iload_n hx hb dX8_tell_129 rfl (lv_at hl 2 rfl) ?_
          refine lv_iconst (v := nI 1) hx hb dX8_tell_130 (by first | rfl | decide) ?_
          refine m_callRI (val := σ (17 * i + 1)) (As := [.int (nI i), .int (nI 1)]) (rest := [.int ((((c9) - (σ (17 * i + 12))) * (σ (17 * i + 0))) / (σ (17 * 0 + 0)))]) ⟨hx, hb, hml, hown, ht⟩ (k_X8_of l g A M Y σ ar ns hR i 1 (by omega)) (cwV 2 ht (gU uw_650 uw_652 uw_15 uw_42 uw_653) rfl rfl rfl (by decide +kernel) ⟨by decide, by decide⟩) hK hM hS (m_recv hK hM (hR.1 Y (by omega) (by omega)) hR.2.1 rfl) rfl hl.1 rfl (Nat.le_of_ble_eq_true rfl) dX8_tell_131 ⟨by decide, by decide⟩ (fun H locs hM hS => ?_)
          refine lv_idiv hx hb dX8_tell_134 (hcu) ?_
          refine lv_topi (fun ee e_ee => ?_)
          refine lv_istore (lv' := [(7, .int (ee)), (6, .int (n2)), (0, .ref (Y)), (1, .int (nI i)), (2, .int (x)), (3, .int (h)), (4, .int (t)), (5, .int (c9))]) hx hb dX8_tell_135 hl (by decide) rfl (fun ls hl => ?_)
          have ee9 : ee = telE σ i c9 := e_ee
          have loop_137 : ∀ (z_137 : Nat) (j : Nat) (y9 : Int32) (H : Heap) (locs : List Loc) (ls : Array Slot), rouK W0 ((telE σ i c9).toInt - (tel2 σ i x).toInt) - j < z_137 → j ≤ rouK W0 ((telE σ i c9).toInt - (tel2 σ i x).toInt) → y9 = n2 + σ 102 * nI j → HD g A M H → va_S A s.heap H locs → lv_has ls 8 [(7, .int (ee)), (6, .int (y9)), (0, .ref (Y)), (1, .int (nI i)), (2, .int (x)), (3, .int (h)), (4, .int (t)), (5, .int (c9))] → W p l e (rmD 1) s m aa below meth c H locs 0 0 Q (F0 m 137 ls []) := by
            intro z_137
            induction z_137 with
            | zero => intro j y9 H locs ls hz hj hyj; exact absurd hz (Nat.not_lt_zero _)
            | succ z_137 ih_137 =>
            intro j y9 H locs ls hz hj hyj hM  hS hl
            have ee9 : ee = telE σ i c9 := e_ee
            refine lv_iload hx hb dX8_tell_137 (lv_at hl 1 rfl) ?_
            refine lv_aload_n hx hb dX8_tell_139 rfl (lv_at hl 2 rfl) ?_
            refine rm_getS hx hb ht ui_X8 hown hK hM hR (ht _ uw_594) dX8_tell_140 ?_
            refine lv_bipush (v := nI 102) hx hb dX8_tell_143 (by first | rfl | decide) ?_
            refine rm_sald hx hb hK hM hR (i := 102) (by omega) dX8_tell_145 ?_
            refine lv_iadd hx hb dX8_tell_146 ?_
            refine lv_iload hx hb dX8_tell_147 (lv_at hl 0 rfl) ?_
            refine lv_isub hx hb dX8_tell_149 ?_
            refine m_callRSI (val := sizC (((y9) + (σ 102)) - (ee))) (As := [.int (((y9) + (σ 102)) - (ee))]) (rest := []) ⟨hx, hb, hml, hown, ht⟩ (k_X8_size l g A M (((y9) + (σ 102)) - (ee))) (cwS 1 ht (gUS uw_687 uw_688 uw_42 uw_689) rfl rfl rfl (by decide +kernel) ⟨by decide, by decide⟩) hK hM hS rfl hl.1 rfl (Nat.le_of_ble_eq_true rfl) dX8_tell_150 ⟨by decide, by decide⟩ (fun H locs hM hS => ?_)
            refine lv_iload hx hb dX8_tell_153 (lv_at hl 1 rfl) ?_
            refine lv_iload hx hb dX8_tell_155 (lv_at hl 0 rfl) ?_
            refine lv_isub hx hb dX8_tell_157 ?_
            refine m_callRSI (val := sizC ((y9) - (ee))) (As := [.int ((y9) - (ee))]) (rest := [.int (sizC (((y9) + (σ 102)) - (ee)))]) ⟨hx, hb, hml, hown, ht⟩ (k_X8_size l g A M ((y9) - (ee))) (cwS 1 ht (gUS uw_687 uw_688 uw_42 uw_689) rfl rfl rfl (by decide +kernel) ⟨by decide, by decide⟩) hK hM hS rfl hl.1 rfl (Nat.le_of_ble_eq_true rfl) dX8_tell_158 ⟨by decide, by decide⟩ (fun H locs hM hS => ?_)
            refine lv_icmp_ge (tgt := 179) hx hb dX8_tell_161 (by decide) (fun c_161 => ?_) (fun c_161 => ?_)
            · have hx9 : tel3 σ i x c9 = y9 := by
                have hj9 : ¬ j < rouK W0 ((telE σ i c9).toInt - (tel2 σ i x).toInt) := fun z => (Int32.not_lt.mpr c_161) (by have z2 := (rou_step hW4 hW60 ha1 ha2 he1 he2 hj).mpr z; rw [hyj, hW, e_n2, ee9]; exact z2)
                have hjK : j = rouK W0 ((telE σ i c9).toInt - (tel2 σ i x).toInt) := by omega
                unfold tel3
                rw [if_pos (show σ 103 = 1 from c_101), hW, rou_eq hW4 hW60 ha1 ha2 he1 he2, ← hjK, hyj, hW, e_n2]
              refine lv_aload_n hx hb dX8_tell_179 rfl (lv_at hl 2 rfl) ?_
              refine lv_iload_n hx hb dX8_tell_180 rfl (lv_at hl 3 rfl) ?_
              refine lv_bipush (v := nI 8) hx hb dX8_tell_181 (by first | rfl | decide) ?_
              refine lv_iload hx hb dX8_tell_183 (lv_at hl 1 rfl) ?_
              refine m_callV (As := [.int (nI i), .int (nI 8), .int (y9)]) (rest := []) ⟨hx, hb, hml, hown, ht⟩ (k_X8_add l g A M Y σ ar ns hR i 8 (y9) (by omega)) (cwV 3 ht (gU uw_642 uw_644 uw_13 uw_42 uw_645) rfl rfl rfl (by decide +kernel) ⟨by decide, by decide⟩) hK hM hS (m_recv hK hM (hR.1 Y (by omega) (by omega)) hR.2.1 rfl) rfl hl.1 rfl (Nat.le_of_ble_eq_true rfl) dX8_tell_185 ⟨by decide, by decide⟩ (fun M H locs hp hM hS => ?_)
              obtain ⟨hR, hF1⟩ := hp
              have hF := hF.tr hF1
              refine lv_aload_n hx hb dX8_tell_188 rfl (lv_at hl 2 rfl) ?_
              refine lv_iload_n hx hb dX8_tell_189 rfl (lv_at hl 3 rfl) ?_
              refine lv_bipush (v := nI 13) hx hb dX8_tell_190 (by first | rfl | decide) ?_
              refine lv_iconst (v := nI 1) hx hb dX8_tell_192 (by first | rfl | decide) ?_
              refine m_callV (As := [.int (nI i), .int (nI 13), .int (nI 1)]) (rest := []) ⟨hx, hb, hml, hown, ht⟩ (k_X8_add l g A M Y (va_up σ (17 * i + 8) (σ (17 * i + 8) + (y9))) ar ns hR i 13 (nI 1) (by omega)) (cwV 3 ht (gU uw_642 uw_644 uw_13 uw_42 uw_645) rfl rfl rfl (by decide +kernel) ⟨by decide, by decide⟩) hK hM hS (m_recv hK hM (hR.1 Y (by omega) (by omega)) hR.2.1 rfl) rfl hl.1 rfl (Nat.le_of_ble_eq_true rfl) dX8_tell_193 ⟨by decide, by decide⟩ (fun M H locs hp hM hS => ?_)
              obtain ⟨hR, hF1⟩ := hp
              have hF := hF.tr hF1
              refine lv_aload_n hx hb dX8_tell_196 rfl (lv_at hl 2 rfl) ?_
              refine rm_getS hx hb ht ui_X8 hown hK hM hR (ht _ uw_594) dX8_tell_197 ?_
              refine lv_bipush (v := nI 17) hx hb dX8_tell_200 (by first | rfl | decide) ?_
              refine lv_iload_n hx hb dX8_tell_202 rfl (lv_at hl 3 rfl) ?_
              refine lv_imul hx hb dX8_tell_203 ?_
              rw [pk_mul (17) (i)]
              refine lv_bipush (v := nI 9) hx hb dX8_tell_204 (by first | rfl | decide) ?_
              refine lv_iadd hx hb dX8_tell_206 ?_
              rw [nI_add ((17 * i)) (9)]
              refine lv_iload_n hx hb dX8_tell_207 rfl (lv_at hl 5 rfl) ?_
              refine rm_sast hx hb hK hM hS hR hF (i := ((17 * i) + 9)) (by omega) dX8_tell_208 (fun M H locs hM hR hF hS => ?_)
              refine lv_aload_n hx hb dX8_tell_209 rfl (lv_at hl 2 rfl) ?_
              refine rm_getS hx hb ht ui_X8 hown hK hM hR (ht _ uw_594) dX8_tell_210 ?_
              refine lv_bipush (v := nI 17) hx hb dX8_tell_213 (by first | rfl | decide) ?_
              refine lv_iload_n hx hb dX8_tell_215 rfl (lv_at hl 3 rfl) ?_
              refine lv_imul hx hb dX8_tell_216 ?_
              rw [pk_mul (17) (i)]
              refine lv_bipush (v := nI 10) hx hb dX8_tell_217 (by first | rfl | decide) ?_
              refine lv_iadd hx hb dX8_tell_219 ?_
              rw [nI_add ((17 * i)) (10)]
              refine lv_iload_n hx hb dX8_tell_220 rfl (lv_at hl 4 rfl) ?_
              refine rm_sast hx hb hK hM hS hR hF (i := ((17 * i) + 10)) (by omega) dX8_tell_221 (fun M H locs hM hR hF hS => ?_)
              refine lv_aload_n hx hb dX8_tell_222 rfl (lv_at hl 2 rfl) ?_
              refine rm_getS hx hb ht ui_X8 hown hK hM hR (ht _ uw_594) dX8_tell_223 ?_
              refine lv_bipush (v := nI 17) hx hb dX8_tell_226 (by first | rfl | decide) ?_
              refine lv_iload_n hx hb dX8_tell_228 rfl (lv_at hl 3 rfl) ?_
              refine lv_imul hx hb dX8_tell_229 ?_
              rw [pk_mul (17) (i)]
              refine lv_bipush (v := nI 11) hx hb dX8_tell_230 (by first | rfl | decide) ?_
              refine lv_iadd hx hb dX8_tell_232 ?_
              rw [nI_add ((17 * i)) (11)]
              refine lv_iload hx hb dX8_tell_233 (lv_at hl 6 rfl) ?_
              refine rm_sast hx hb hK hM hS hR hF (i := ((17 * i) + 11)) (by omega) dX8_tell_235 (fun M H locs hM hR hF hS => ?_)
              refine lv_aload_n hx hb dX8_tell_236 rfl (lv_at hl 2 rfl) ?_
              refine rm_getS hx hb ht ui_X8 hown hK hM hR (ht _ uw_594) dX8_tell_237 ?_
              refine lv_bipush (v := nI 17) hx hb dX8_tell_240 (by first | rfl | decide) ?_
              refine lv_iload_n hx hb dX8_tell_242 rfl (lv_at hl 3 rfl) ?_
              refine lv_imul hx hb dX8_tell_243 ?_
              rw [pk_mul (17) (i)]
              refine lv_bipush (v := nI 12) hx hb dX8_tell_244 (by first | rfl | decide) ?_
              refine lv_iadd hx hb dX8_tell_246 ?_
              rw [nI_add ((17 * i)) (12)]
              refine lv_iload hx hb dX8_tell_247 (lv_at hl 7 rfl) ?_
              refine rm_sast hx hb hK hM hS hR hF (i := ((17 * i) + 12)) (by omega) dX8_tell_249 (fun M H locs hM hR hF hS => ?_)
              subst hQ
              exact m_vret hx hb hr hlk hK hM hS dX8_tell_250 (⟨hR.eqv (tel_T (by first | exact tel_take1 c_8 c_28 | exact tel_take2 c_8 c_39 | exact tel_take3 c_8 c_49) hx9) rfl rfl, hF⟩)
            · have hj9 := (rou_step hW4 hW60 ha1 ha2 he1 he2 hj).mp (by have z := Int32.not_le.mp c_161; rw [hyj, hW, e_n2, ee9] at z; exact z)
              refine lv_iload hx hb dX8_tell_164 (lv_at hl 1 rfl) ?_
              refine lv_aload_n hx hb dX8_tell_166 rfl (lv_at hl 2 rfl) ?_
              refine rm_getS hx hb ht ui_X8 hown hK hM hR (ht _ uw_594) dX8_tell_167 ?_
              refine lv_bipush (v := nI 102) hx hb dX8_tell_170 (by first | rfl | decide) ?_
              refine rm_sald hx hb hK hM hR (i := 102) (by omega) dX8_tell_172 ?_
              refine lv_iadd hx hb dX8_tell_173 ?_
              refine lv_istore (lv' := [(6, .int ((y9) + (σ 102))), (7, .int (ee)), (0, .ref (Y)), (1, .int (nI i)), (2, .int (x)), (3, .int (h)), (4, .int (t)), (5, .int (c9))]) hx hb dX8_tell_174 hl (by decide) rfl (fun ls hl => ?_)
              refine lv_goto (tgt := 137) hx hb dX8_tell_176 (by decide) ?_
              have ee9 : ee = telE σ i c9 := e_ee
              exact ih_137 (j + 1) (y9 + σ 102) _ _ _ (by omega) (by omega) (by rw [hyj, hW]; exact rou_next j) hM hS (lv_sub hl [1, 0, 2, 3, 4, 5, 6, 7] rfl)
          exact loop_137 _ 0 n2 _ _ _ (Nat.lt_succ_self _) (Nat.zero_le _) (by rw [show nI 0 = 0 from rfl, Int32.mul_zero, Int32.add_zero]) hM hS (lv_sub hl [0, 1, 2, 3, 4, 5, 6, 7] rfl)
      · refine lv_aload_n hx hb dX8_tell_79 rfl (lv_at hl 1 rfl) ?_
        refine rm_getS hx hb ht ui_X8 hown hK hM hR (ht _ uw_594) dX8_tell_80 ?_
        refine lv_bipush (v := nI 102) hx hb dX8_tell_83 (by first | rfl | decide) ?_
        refine rm_sald hx hb hK hM hR (i := 102) (by omega) dX8_tell_85 ?_
        refine lv_goto (tgt := 90) hx hb dX8_tell_86 (by decide) ?_
        refine lv_iadd hx hb dX8_tell_90 ?_
        refine lv_topi (fun n2 e_n2 => ?_)
        refine lv_istore (lv' := [(6, .int (n2)), (0, .ref (Y)), (1, .int (nI i)), (2, .int (x)), (3, .int (h)), (4, .int (t)), (5, .int (c9))]) hx hb dX8_tell_91 hl (by decide) rfl (fun ls hl => ?_)
        have e_n2 : n2 = tel2 σ i x := e_n2.trans (by rw [e_n1]; exact (if_pos (by rw [← e_n1]; exact Int32.not_le.mp c_76)).symm)
        refine lv_aload_n hx hb dX8_tell_93 rfl (lv_at hl 1 rfl) ?_
        refine rm_getS hx hb ht ui_X8 hown hK hM hR (ht _ uw_594) dX8_tell_94 ?_
        refine lv_bipush (v := nI 103) hx hb dX8_tell_97 (by first | rfl | decide) ?_
        refine rm_sald hx hb hK hM hR (i := 103) (by omega) dX8_tell_99 ?_
        refine lv_iconst (v := nI 1) hx hb dX8_tell_100 (by first | rfl | decide) ?_
        refine lv_icmp_ne (tgt := 179) hx hb dX8_tell_101 (by decide) (fun c_101 => ?_) (fun c_101 => ?_)
        · refine lv_aload_n hx hb dX8_tell_179 rfl (lv_at hl 1 rfl) ?_
          refine lv_iload_n hx hb dX8_tell_180 rfl (lv_at hl 2 rfl) ?_
          refine lv_bipush (v := nI 8) hx hb dX8_tell_181 (by first | rfl | decide) ?_
          refine lv_iload hx hb dX8_tell_183 (lv_at hl 0 rfl) ?_
          refine m_callV (As := [.int (nI i), .int (nI 8), .int (n2)]) (rest := []) ⟨hx, hb, hml, hown, ht⟩ (k_X8_add l g A M Y σ ar ns hR i 8 (n2) (by omega)) (cwV 3 ht (gU uw_642 uw_644 uw_13 uw_42 uw_645) rfl rfl rfl (by decide +kernel) ⟨by decide, by decide⟩) hK hM hS (m_recv hK hM (hR.1 Y (by omega) (by omega)) hR.2.1 rfl) rfl hl.1 rfl (Nat.le_of_ble_eq_true rfl) dX8_tell_185 ⟨by decide, by decide⟩ (fun M H locs hp hM hS => ?_)
          obtain ⟨hR, hF1⟩ := hp
          have hF := hF.tr hF1
          refine lv_aload_n hx hb dX8_tell_188 rfl (lv_at hl 1 rfl) ?_
          refine lv_iload_n hx hb dX8_tell_189 rfl (lv_at hl 2 rfl) ?_
          refine lv_bipush (v := nI 13) hx hb dX8_tell_190 (by first | rfl | decide) ?_
          refine lv_iconst (v := nI 1) hx hb dX8_tell_192 (by first | rfl | decide) ?_
          refine m_callV (As := [.int (nI i), .int (nI 13), .int (nI 1)]) (rest := []) ⟨hx, hb, hml, hown, ht⟩ (k_X8_add l g A M Y (va_up σ (17 * i + 8) (σ (17 * i + 8) + (n2))) ar ns hR i 13 (nI 1) (by omega)) (cwV 3 ht (gU uw_642 uw_644 uw_13 uw_42 uw_645) rfl rfl rfl (by decide +kernel) ⟨by decide, by decide⟩) hK hM hS (m_recv hK hM (hR.1 Y (by omega) (by omega)) hR.2.1 rfl) rfl hl.1 rfl (Nat.le_of_ble_eq_true rfl) dX8_tell_193 ⟨by decide, by decide⟩ (fun M H locs hp hM hS => ?_)
          obtain ⟨hR, hF1⟩ := hp
          have hF := hF.tr hF1
          refine lv_aload_n hx hb dX8_tell_196 rfl (lv_at hl 1 rfl) ?_
          refine rm_getS hx hb ht ui_X8 hown hK hM hR (ht _ uw_594) dX8_tell_197 ?_
          refine lv_bipush (v := nI 17) hx hb dX8_tell_200 (by first | rfl | decide) ?_
          refine lv_iload_n hx hb dX8_tell_202 rfl (lv_at hl 2 rfl) ?_
          refine lv_imul hx hb dX8_tell_203 ?_
          rw [pk_mul (17) (i)]
          refine lv_bipush (v := nI 9) hx hb dX8_tell_204 (by first | rfl | decide) ?_
          refine lv_iadd hx hb dX8_tell_206 ?_
          rw [nI_add ((17 * i)) (9)]
          refine lv_iload_n hx hb dX8_tell_207 rfl (lv_at hl 4 rfl) ?_
          refine rm_sast hx hb hK hM hS hR hF (i := ((17 * i) + 9)) (by omega) dX8_tell_208 (fun M H locs hM hR hF hS => ?_)
          refine lv_aload_n hx hb dX8_tell_209 rfl (lv_at hl 1 rfl) ?_
          refine rm_getS hx hb ht ui_X8 hown hK hM hR (ht _ uw_594) dX8_tell_210 ?_
          refine lv_bipush (v := nI 17) hx hb dX8_tell_213 (by first | rfl | decide) ?_
          refine lv_iload_n hx hb dX8_tell_215 rfl (lv_at hl 2 rfl) ?_
          refine lv_imul hx hb dX8_tell_216 ?_
          rw [pk_mul (17) (i)]
          refine lv_bipush (v := nI 10) hx hb dX8_tell_217 (by first | rfl | decide) ?_
          refine lv_iadd hx hb dX8_tell_219 ?_
          rw [nI_add ((17 * i)) (10)]
          refine lv_iload_n hx hb dX8_tell_220 rfl (lv_at hl 3 rfl) ?_
          refine rm_sast hx hb hK hM hS hR hF (i := ((17 * i) + 10)) (by omega) dX8_tell_221 (fun M H locs hM hR hF hS => ?_)
          refine lv_aload_n hx hb dX8_tell_222 rfl (lv_at hl 1 rfl) ?_
          refine rm_getS hx hb ht ui_X8 hown hK hM hR (ht _ uw_594) dX8_tell_223 ?_
          refine lv_bipush (v := nI 17) hx hb dX8_tell_226 (by first | rfl | decide) ?_
          refine lv_iload_n hx hb dX8_tell_228 rfl (lv_at hl 2 rfl) ?_
          refine lv_imul hx hb dX8_tell_229 ?_
          rw [pk_mul (17) (i)]
          refine lv_bipush (v := nI 11) hx hb dX8_tell_230 (by first | rfl | decide) ?_
          refine lv_iadd hx hb dX8_tell_232 ?_
          rw [nI_add ((17 * i)) (11)]
          refine lv_iload hx hb dX8_tell_233 (lv_at hl 5 rfl) ?_
          refine rm_sast hx hb hK hM hS hR hF (i := ((17 * i) + 11)) (by omega) dX8_tell_235 (fun M H locs hM hR hF hS => ?_)
          refine lv_aload_n hx hb dX8_tell_236 rfl (lv_at hl 1 rfl) ?_
          refine rm_getS hx hb ht ui_X8 hown hK hM hR (ht _ uw_594) dX8_tell_237 ?_
          refine lv_bipush (v := nI 17) hx hb dX8_tell_240 (by first | rfl | decide) ?_
          refine lv_iload_n hx hb dX8_tell_242 rfl (lv_at hl 2 rfl) ?_
          refine lv_imul hx hb dX8_tell_243 ?_
          rw [pk_mul (17) (i)]
          refine lv_bipush (v := nI 12) hx hb dX8_tell_244 (by first | rfl | decide) ?_
          refine lv_iadd hx hb dX8_tell_246 ?_
          rw [nI_add ((17 * i)) (12)]
          refine lv_iload hx hb dX8_tell_247 (lv_at hl 6 rfl) ?_
          refine rm_sast hx hb hK hM hS hR hF (i := ((17 * i) + 12)) (by omega) dX8_tell_249 (fun M H locs hM hR hF hS => ?_)
          subst hQ
          exact m_vret hx hb hr hlk hK hM hS dX8_tell_250 (⟨hR.eqv (tel_T (by first | exact tel_take1 c_8 c_28 | exact tel_take2 c_8 c_39 | exact tel_take3 c_8 c_49) (show tel3 σ i x c9 = n2 from (if_neg c_101).trans e_n2.symm)) rfl rfl, hF⟩)
        · refine lv_iload hx hb dX8_tell_104 (lv_at hl 6 rfl) ?_
          refine lv_aload_n hx hb dX8_tell_106 rfl (lv_at hl 1 rfl) ?_
          refine lv_iload_n hx hb dX8_tell_107 rfl (lv_at hl 2 rfl) ?_
          refine lv_bipush (v := nI 12) hx hb dX8_tell_108 (by first | rfl | decide) ?_
          refine m_callRI (val := σ (17 * i + 12)) (As := [.int (nI i), .int (nI 12)]) (rest := [.int (c9)]) ⟨hx, hb, hml, hown, ht⟩ (k_X8_of l g A M Y σ ar ns hR i 12 (by omega)) (cwV 2 ht (gU uw_650 uw_652 uw_15 uw_42 uw_653) rfl rfl rfl (by decide +kernel) ⟨by decide, by decide⟩) hK hM hS (m_recv hK hM (hR.1 Y (by omega) (by omega)) hR.2.1 rfl) rfl hl.1 rfl (Nat.le_of_ble_eq_true rfl) dX8_tell_110 ⟨by decide, by decide⟩ (fun H locs hM hS => ?_)
          refine lv_isub hx hb dX8_tell_113 ?_
          refine lv_aload_n hx hb dX8_tell_114 rfl (lv_at hl 1 rfl) ?_
          refine lv_iload_n hx hb dX8_tell_115 rfl (lv_at hl 2 rfl) ?_
          refine lv_iconst (v := nI 0) hx hb dX8_tell_116 (by first | rfl | decide) ?_
          refine m_callRI (val := σ (17 * i + 0)) (As := [.int (nI i), .int (nI 0)]) (rest := [.int ((c9) - (σ (17 * i + 12)))]) ⟨hx, hb, hml, hown, ht⟩ (k_X8_of l g A M Y σ ar ns hR i 0 (by omega)) (cwV 2 ht (gU uw_650 uw_652 uw_15 uw_42 uw_653) rfl rfl rfl (by decide +kernel) ⟨by decide, by decide⟩) hK hM hS (m_recv hK hM (hR.1 Y (by omega) (by omega)) hR.2.1 rfl) rfl hl.1 rfl (Nat.le_of_ble_eq_true rfl) dX8_tell_117 ⟨by decide, by decide⟩ (fun H locs hM hS => ?_)
          refine lv_imul hx hb dX8_tell_120 ?_
          refine lv_aload_n hx hb dX8_tell_121 rfl (lv_at hl 1 rfl) ?_
          refine lv_iconst (v := nI 0) hx hb dX8_tell_122 (by first | rfl | decide) ?_
          refine lv_iconst (v := nI 0) hx hb dX8_tell_123 (by first | rfl | decide) ?_
          refine m_callRI (val := σ (17 * 0 + 0)) (As := [.int (nI 0), .int (nI 0)]) (rest := [.int (((c9) - (σ (17 * i + 12))) * (σ (17 * i + 0)))]) ⟨hx, hb, hml, hown, ht⟩ (k_X8_of l g A M Y σ ar ns hR 0 0 (by omega)) (cwV 2 ht (gU uw_650 uw_652 uw_15 uw_42 uw_653) rfl rfl rfl (by decide +kernel) ⟨by decide, by decide⟩) hK hM hS (m_recv hK hM (hR.1 Y (by omega) (by omega)) hR.2.1 rfl) rfl hl.1 rfl (Nat.le_of_ble_eq_true rfl) dX8_tell_124 ⟨by decide, by decide⟩ (fun H locs hM hS => ?_)
          refine lv_idiv hx hb dX8_tell_127 (hm0) ?_
          refine lv_aload_n hx hb dX8_tell_128 rfl (lv_at hl 1 rfl) ?_
          refine lv_iload_n hx hb dX8_tell_129 rfl (lv_at hl 2 rfl) ?_
          refine lv_iconst (v := nI 1) hx hb dX8_tell_130 (by first | rfl | decide) ?_
          refine m_callRI (val := σ (17 * i + 1)) (As := [.int (nI i), .int (nI 1)]) (rest := [.int ((((c9) - (σ (17 * i + 12))) * (σ (17 * i + 0))) / (σ (17 * 0 + 0)))]) ⟨hx, hb, hml, hown, ht⟩ (k_X8_of l g A M Y σ ar ns hR i 1 (by omega)) (cwV 2 ht (gU uw_650 uw_652 uw_15 uw_42 uw_653) rfl rfl rfl (by decide +kernel) ⟨by decide, by decide⟩) hK hM hS (m_recv hK hM (hR.1 Y (by omega) (by omega)) hR.2.1 rfl) rfl hl.1 rfl (Nat.le_of_ble_eq_true rfl) dX8_tell_131 ⟨by decide, by decide⟩ (fun H locs hM hS => ?_)
          refine lv_idiv hx hb dX8_tell_134 (hcu) ?_
          refine lv_topi (fun ee e_ee => ?_)
          refine lv_istore (lv' := [(7, .int (ee)), (6, .int (n2)), (0, .ref (Y)), (1, .int (nI i)), (2, .int (x)), (3, .int (h)), (4, .int (t)), (5, .int (c9))]) hx hb dX8_tell_135 hl (by decide) rfl (fun ls hl => ?_)
          have ee9 : ee = telE σ i c9 := e_ee
          have loop_137 : ∀ (z_137 : Nat) (j : Nat) (y9 : Int32) (H : Heap) (locs : List Loc) (ls : Array Slot), rouK W0 ((telE σ i c9).toInt - (tel2 σ i x).toInt) - j < z_137 → j ≤ rouK W0 ((telE σ i c9).toInt - (tel2 σ i x).toInt) → y9 = n2 + σ 102 * nI j → HD g A M H → va_S A s.heap H locs → lv_has ls 8 [(7, .int (ee)), (6, .int (y9)), (0, .ref (Y)), (1, .int (nI i)), (2, .int (x)), (3, .int (h)), (4, .int (t)), (5, .int (c9))] → W p l e (rmD 1) s m aa below meth c H locs 0 0 Q (F0 m 137 ls []) := by
            intro z_137
            induction z_137 with
            | zero => intro j y9 H locs ls hz hj hyj; exact absurd hz (Nat.not_lt_zero _)
            | succ z_137 ih_137 =>
            intro j y9 H locs ls hz hj hyj hM  hS hl
            have ee9 : ee = telE σ i c9 := e_ee
            refine lv_iload hx hb dX8_tell_137 (lv_at hl 1 rfl) ?_
            refine lv_aload_n hx hb dX8_tell_139 rfl (lv_at hl 2 rfl) ?_
            refine rm_getS hx hb ht ui_X8 hown hK hM hR (ht _ uw_594) dX8_tell_140 ?_
            refine lv_bipush (v := nI 102) hx hb dX8_tell_143 (by first | rfl | decide) ?_
            refine rm_sald hx hb hK hM hR (i := 102) (by omega) dX8_tell_145 ?_
            refine lv_iadd hx hb dX8_tell_146 ?_
            refine lv_iload hx hb dX8_tell_147 (lv_at hl 0 rfl) ?_
            refine lv_isub hx hb dX8_tell_149 ?_
            refine m_callRSI (val := sizC (((y9) + (σ 102)) - (ee))) (As := [.int (((y9) + (σ 102)) - (ee))]) (rest := []) ⟨hx, hb, hml, hown, ht⟩ (k_X8_size l g A M (((y9) + (σ 102)) - (ee))) (cwS 1 ht (gUS uw_687 uw_688 uw_42 uw_689) rfl rfl rfl (by decide +kernel) ⟨by decide, by decide⟩) hK hM hS rfl hl.1 rfl (Nat.le_of_ble_eq_true rfl) dX8_tell_150 ⟨by decide, by decide⟩ (fun H locs hM hS => ?_)
            refine lv_iload hx hb dX8_tell_153 (lv_at hl 1 rfl) ?_
            refine lv_iload hx hb dX8_tell_155 (lv_at hl 0 rfl) ?_
            refine lv_isub hx hb dX8_tell_157 ?_
            refine m_callRSI (val := sizC ((y9) - (ee))) (As := [.int ((y9) - (ee))]) (rest := [.int (sizC (((y9) + (σ 102)) - (ee)))]) ⟨hx, hb, hml, hown, ht⟩ (k_X8_size l g A M ((y9) - (ee))) (cwS 1 ht (gUS uw_687 uw_688 uw_42 uw_689) rfl rfl rfl (by decide +kernel) ⟨by decide, by decide⟩) hK hM hS rfl hl.1 rfl (Nat.le_of_ble_eq_true rfl) dX8_tell_158 ⟨by decide, by decide⟩ (fun H locs hM hS => ?_)
            refine lv_icmp_ge (tgt := 179) hx hb dX8_tell_161 (by decide) (fun c_161 => ?_) (fun c_161 => ?_)
            · have hx9 : tel3 σ i x c9 = y9 := by
                have hj9 : ¬ j < rouK W0 ((telE σ i c9).toInt - (tel2 σ i x).toInt) := fun z => (Int32.not_lt.mpr c_161) (by have z2 := (rou_step hW4 hW60 ha1 ha2 he1 he2 hj).mpr z; rw [hyj, hW, e_n2, ee9]; exact z2)
                have hjK : j = rouK W0 ((telE σ i c9).toInt - (tel2 σ i x).toInt) := by omega
                unfold tel3
                rw [if_pos (show σ 103 = 1 from c_101), hW, rou_eq hW4 hW60 ha1 ha2 he1 he2, ← hjK, hyj, hW, e_n2]
              refine lv_aload_n hx hb dX8_tell_179 rfl (lv_at hl 2 rfl) ?_
              refine lv_iload_n hx hb dX8_tell_180 rfl (lv_at hl 3 rfl) ?_
              refine lv_bipush (v := nI 8) hx hb dX8_tell_181 (by first | rfl | decide) ?_
              refine lv_iload hx hb dX8_tell_183 (lv_at hl 1 rfl) ?_
              refine m_callV (As := [.int (nI i), .int (nI 8), .int (y9)]) (rest := []) ⟨hx, hb, hml, hown, ht⟩ (k_X8_add l g A M Y σ ar ns hR i 8 (y9) (by omega)) (cwV 3 ht (gU uw_642 uw_644 uw_13 uw_42 uw_645) rfl rfl rfl (by decide +kernel) ⟨by decide, by decide⟩) hK hM hS (m_recv hK hM (hR.1 Y (by omega) (by omega)) hR.2.1 rfl) rfl hl.1 rfl (Nat.le_of_ble_eq_true rfl) dX8_tell_185 ⟨by decide, by decide⟩ (fun M H locs hp hM hS => ?_)
              obtain ⟨hR, hF1⟩ := hp
              have hF := hF.tr hF1
              refine lv_aload_n hx hb dX8_tell_188 rfl (lv_at hl 2 rfl) ?_
              refine lv_iload_n hx hb dX8_tell_189 rfl (lv_at hl 3 rfl) ?_
              refine lv_bipush (v := nI 13) hx hb dX8_tell_190 (by first | rfl | decide) ?_
              refine lv_iconst (v := nI 1) hx hb dX8_tell_192 (by first | rfl | decide) ?_
              refine m_callV (As := [.int (nI i), .int (nI 13), .int (nI 1)]) (rest := []) ⟨hx, hb, hml, hown, ht⟩ (k_X8_add l g A M Y (va_up σ (17 * i + 8) (σ (17 * i + 8) + (y9))) ar ns hR i 13 (nI 1) (by omega)) (cwV 3 ht (gU uw_642 uw_644 uw_13 uw_42 uw_645) rfl rfl rfl (by decide +kernel) ⟨by decide, by decide⟩) hK hM hS (m_recv hK hM (hR.1 Y (by omega) (by omega)) hR.2.1 rfl) rfl hl.1 rfl (Nat.le_of_ble_eq_true rfl) dX8_tell_193 ⟨by decide, by decide⟩ (fun M H locs hp hM hS => ?_)
              obtain ⟨hR, hF1⟩ := hp
              have hF := hF.tr hF1
              refine lv_aload_n hx hb dX8_tell_196 rfl (lv_at hl 2 rfl) ?_
              refine rm_getS hx hb ht ui_X8 hown hK hM hR (ht _ uw_594) dX8_tell_197 ?_
              refine lv_bipush (v := nI 17) hx hb dX8_tell_200 (by first | rfl | decide) ?_
              refine lv_iload_n hx hb dX8_tell_202 rfl (lv_at hl 3 rfl) ?_
              refine lv_imul hx hb dX8_tell_203 ?_
              rw [pk_mul (17) (i)]
              refine lv_bipush (v := nI 9) hx hb dX8_tell_204 (by first | rfl | decide) ?_
              refine lv_iadd hx hb dX8_tell_206 ?_
              rw [nI_add ((17 * i)) (9)]
              refine lv_iload_n hx hb dX8_tell_207 rfl (lv_at hl 5 rfl) ?_
              refine rm_sast hx hb hK hM hS hR hF (i := ((17 * i) + 9)) (by omega) dX8_tell_208 (fun M H locs hM hR hF hS => ?_)
              refine lv_aload_n hx hb dX8_tell_209 rfl (lv_at hl 2 rfl) ?_
              refine rm_getS hx hb ht ui_X8 hown hK hM hR (ht _ uw_594) dX8_tell_210 ?_
              refine lv_bipush (v := nI 17) hx hb dX8_tell_213 (by first | rfl | decide) ?_
              refine lv_iload_n hx hb dX8_tell_215 rfl (lv_at hl 3 rfl) ?_
              refine lv_imul hx hb dX8_tell_216 ?_
              rw [pk_mul (17) (i)]
              refine lv_bipush (v := nI 10) hx hb dX8_tell_217 (by first | rfl | decide) ?_
              refine lv_iadd hx hb dX8_tell_219 ?_
              rw [nI_add ((17 * i)) (10)]
              refine lv_iload_n hx hb dX8_tell_220 rfl (lv_at hl 4 rfl) ?_
              refine rm_sast hx hb hK hM hS hR hF (i := ((17 * i) + 10)) (by omega) dX8_tell_221 (fun M H locs hM hR hF hS => ?_)
              refine lv_aload_n hx hb dX8_tell_222 rfl (lv_at hl 2 rfl) ?_
              refine rm_getS hx hb ht ui_X8 hown hK hM hR (ht _ uw_594) dX8_tell_223 ?_
              refine lv_bipush (v := nI 17) hx hb dX8_tell_226 (by first | rfl | decide) ?_
              refine lv_iload_n hx hb dX8_tell_228 rfl (lv_at hl 3 rfl) ?_
              refine lv_imul hx hb dX8_tell_229 ?_
              rw [pk_mul (17) (i)]
              refine lv_bipush (v := nI 11) hx hb dX8_tell_230 (by first | rfl | decide) ?_
              refine lv_iadd hx hb dX8_tell_232 ?_
              rw [nI_add ((17 * i)) (11)]
              refine lv_iload hx hb dX8_tell_233 (lv_at hl 6 rfl) ?_
              refine rm_sast hx hb hK hM hS hR hF (i := ((17 * i) + 11)) (by omega) dX8_tell_235 (fun M H locs hM hR hF hS => ?_)
              refine lv_aload_n hx hb dX8_tell_236 rfl (lv_at hl 2 rfl) ?_
              refine rm_getS hx hb ht ui_X8 hown hK hM hR (ht _ uw_594) dX8_tell_237 ?_
              refine lv_bipush (v := nI 17) hx hb dX8_tell_240 (by first | rfl | decide) ?_
              refine lv_iload_n hx hb dX8_tell_242 rfl (lv_at hl 3 rfl) ?_
              refine lv_imul hx hb dX8_tell_243 ?_
              rw [pk_mul (17) (i)]
              refine lv_bipush (v := nI 12) hx hb dX8_tell_244 (by first | rfl | decide) ?_
              refine lv_iadd hx hb dX8_tell_246 ?_
              rw [nI_add ((17 * i)) (12)]
              refine lv_iload hx hb dX8_tell_247 (lv_at hl 7 rfl) ?_
              refine rm_sast hx hb hK hM hS hR hF (i := ((17 * i) + 12)) (by omega) dX8_tell_249 (fun M H locs hM hR hF hS => ?_)
              subst hQ
              exact m_vret hx hb hr hlk hK hM hS dX8_tell_250 (⟨hR.eqv (tel_T (by first | exact tel_take1 c_8 c_28 | exact tel_take2 c_8 c_39 | exact tel_take3 c_8 c_49) hx9) rfl rfl, hF⟩)
            · have hj9 := (rou_step hW4 hW60 ha1 ha2 he1 he2 hj).mp (by have z := Int32.not_le.mp c_161; rw [hyj, hW, e_n2, ee9] at z; exact z)
              refine lv_iload hx hb dX8_tell_164 (lv_at hl 1 rfl) ?_
              refine lv_aload_n hx hb dX8_tell_166 rfl (lv_at hl 2 rfl) ?_
              refine rm_getS hx hb ht ui_X8 hown hK hM hR (ht _ uw_594) dX8_tell_167 ?_
              refine lv_bipush (v := nI 102) hx hb dX8_tell_170 (by first | rfl | decide) ?_
              refine rm_sald hx hb hK hM hR (i := 102) (by omega) dX8_tell_172 ?_
              refine lv_iadd hx hb dX8_tell_173 ?_
              refine lv_istore (lv' := [(6, .int ((y9) + (σ 102))), (7, .int (ee)), (0, .ref (Y)), (1, .int (nI i)), (2, .int (x)), (3, .int (h)), (4, .int (t)), (5, .int (c9))]) hx hb dX8_tell_174 hl (by decide) rfl (fun ls hl => ?_)
              refine lv_goto (tgt := 137) hx hb dX8_tell_176 (by decide) ?_
              have ee9 : ee = telE σ i c9 := e_ee
              exact ih_137 (j + 1) (y9 + σ 102) _ _ _ (by omega) (by omega) (by rw [hyj, hW]; exact rou_next j) hM hS (lv_sub hl [1, 0, 2, 3, 4, 5, 6, 7] rfl)
          exact loop_137 _ 0 n2 _ _ _ (Nat.lt_succ_self _) (Nat.zero_le _) (by rw [show nI 0 = 0 from rfl, Int32.mul_zero, Int32.add_zero]) hM hS (lv_sub hl [0, 1, 2, 3, 4, 5, 6, 7] rfl)
    · refine lv_iload_n hx hb dX8_tell_31 rfl (lv_at hl 2 rfl) ?_
      refine lv_aload_n hx hb dX8_tell_32 rfl (lv_at hl 0 rfl) ?_
      refine lv_iload_n hx hb dX8_tell_33 rfl (lv_at hl 1 rfl) ?_
      refine lv_bipush (v := nI 10) hx hb dX8_tell_34 (by first | rfl | decide) ?_
      refine m_callRI (val := σ (17 * i + 10)) (As := [.int (nI i), .int (nI 10)]) (rest := [.int (x)]) ⟨hx, hb, hml, hown, ht⟩ (k_X8_of l g A M Y σ ar ns hR i 10 (by omega)) (cwV 2 ht (gU uw_650 uw_652 uw_15 uw_42 uw_653) rfl rfl rfl (by decide +kernel) ⟨by decide, by decide⟩) hK hM hS (m_recv hK hM (hR.1 Y (by omega) (by omega)) hR.2.1 rfl) rfl hl.1 rfl (Nat.le_of_ble_eq_true rfl) dX8_tell_36 ⟨by decide, by decide⟩ (fun H locs hM hS => ?_)
      refine lv_icmp_ne (tgt := 61) hx hb dX8_tell_39 (by decide) (fun c_39 => ?_) (fun c_39 => ?_)
      · refine lv_iload_n hx hb dX8_tell_61 rfl (lv_at hl 2 rfl) ?_
        refine lv_aload_n hx hb dX8_tell_62 rfl (lv_at hl 0 rfl) ?_
        refine lv_iload_n hx hb dX8_tell_63 rfl (lv_at hl 1 rfl) ?_
        refine lv_bipush (v := nI 10) hx hb dX8_tell_64 (by first | rfl | decide) ?_
        refine m_callRI (val := σ (17 * i + 10)) (As := [.int (nI i), .int (nI 10)]) (rest := [.int (x)]) ⟨hx, hb, hml, hown, ht⟩ (k_X8_of l g A M Y σ ar ns hR i 10 (by omega)) (cwV 2 ht (gU uw_650 uw_652 uw_15 uw_42 uw_653) rfl rfl rfl (by decide +kernel) ⟨by decide, by decide⟩) hK hM hS (m_recv hK hM (hR.1 Y (by omega) (by omega)) hR.2.1 rfl) rfl hl.1 rfl (Nat.le_of_ble_eq_true rfl) dX8_tell_66 ⟨by decide, by decide⟩ (fun H locs hM hS => ?_)
        refine lv_isub hx hb dX8_tell_69 ?_
        refine lv_topi (fun n1 e_n1 => ?_)
        refine lv_istore (lv' := [(6, .int (n1)), (0, .ref (Y)), (1, .int (nI i)), (2, .int (x)), (3, .int (h)), (4, .int (t)), (5, .int (c9))]) hx hb dX8_tell_70 hl (by decide) rfl (fun ls hl => ?_)
        refine lv_iload hx hb dX8_tell_72 (lv_at hl 0 rfl) ?_
        refine lv_iload hx hb dX8_tell_74 (lv_at hl 0 rfl) ?_
        refine lv_if_ge (tgt := 89) hx hb dX8_tell_76 (by decide) (fun c_76 => ?_) (fun c_76 => ?_)
        · refine lv_iconst (v := nI 0) hx hb dX8_tell_89 (by first | rfl | decide) ?_
          refine lv_iadd hx hb dX8_tell_90 ?_
          refine lv_topi (fun n2 e_n2 => ?_)
          refine lv_istore (lv' := [(6, .int (n2)), (0, .ref (Y)), (1, .int (nI i)), (2, .int (x)), (3, .int (h)), (4, .int (t)), (5, .int (c9))]) hx hb dX8_tell_91 hl (by decide) rfl (fun ls hl => ?_)
          have e_n2 : n2 = tel2 σ i x := e_n2.trans (by rw [e_n1]; exact (if_neg (by rw [← e_n1]; exact Int32.not_lt.mpr c_76)).symm)
          refine lv_aload_n hx hb dX8_tell_93 rfl (lv_at hl 1 rfl) ?_
          refine rm_getS hx hb ht ui_X8 hown hK hM hR (ht _ uw_594) dX8_tell_94 ?_
          refine lv_bipush (v := nI 103) hx hb dX8_tell_97 (by first | rfl | decide) ?_
          refine rm_sald hx hb hK hM hR (i := 103) (by omega) dX8_tell_99 ?_
          refine lv_iconst (v := nI 1) hx hb dX8_tell_100 (by first | rfl | decide) ?_
          refine lv_icmp_ne (tgt := 179) hx hb dX8_tell_101 (by decide) (fun c_101 => ?_) (fun c_101 => ?_)
          · refine lv_aload_n hx hb dX8_tell_179 rfl (lv_at hl 1 rfl) ?_
            refine lv_iload_n hx hb dX8_tell_180 rfl (lv_at hl 2 rfl) ?_
            refine lv_bipush (v := nI 8) hx hb dX8_tell_181 (by first | rfl | decide) ?_
            refine lv_iload hx hb dX8_tell_183 (lv_at hl 0 rfl) ?_
            refine m_callV (As := [.int (nI i), .int (nI 8), .int (n2)]) (rest := []) ⟨hx, hb, hml, hown, ht⟩ (k_X8_add l g A M Y σ ar ns hR i 8 (n2) (by omega)) (cwV 3 ht (gU uw_642 uw_644 uw_13 uw_42 uw_645) rfl rfl rfl (by decide +kernel) ⟨by decide, by decide⟩) hK hM hS (m_recv hK hM (hR.1 Y (by omega) (by omega)) hR.2.1 rfl) rfl hl.1 rfl (Nat.le_of_ble_eq_true rfl) dX8_tell_185 ⟨by decide, by decide⟩ (fun M H locs hp hM hS => ?_)
            obtain ⟨hR, hF1⟩ := hp
            have hF := hF.tr hF1
            refine lv_aload_n hx hb dX8_tell_188 rfl (lv_at hl 1 rfl) ?_
            refine lv_iload_n hx hb dX8_tell_189 rfl (lv_at hl 2 rfl) ?_
            refine lv_bipush (v := nI 13) hx hb dX8_tell_190 (by first | rfl | decide) ?_
            refine lv_iconst (v := nI 1) hx hb dX8_tell_192 (by first | rfl | decide) ?_
            refine m_callV (As := [.int (nI i), .int (nI 13), .int (nI 1)]) (rest := []) ⟨hx, hb, hml, hown, ht⟩ (k_X8_add l g A M Y (va_up σ (17 * i + 8) (σ (17 * i + 8) + (n2))) ar ns hR i 13 (nI 1) (by omega)) (cwV 3 ht (gU uw_642 uw_644 uw_13 uw_42 uw_645) rfl rfl rfl (by decide +kernel) ⟨by decide, by decide⟩) hK hM hS (m_recv hK hM (hR.1 Y (by omega) (by omega)) hR.2.1 rfl) rfl hl.1 rfl (Nat.le_of_ble_eq_true rfl) dX8_tell_193 ⟨by decide, by decide⟩ (fun M H locs hp hM hS => ?_)
            obtain ⟨hR, hF1⟩ := hp
            have hF := hF.tr hF1
            refine lv_aload_n hx hb dX8_tell_196 rfl (lv_at hl 1 rfl) ?_
            refine rm_getS hx hb ht ui_X8 hown hK hM hR (ht _ uw_594) dX8_tell_197 ?_
            refine lv_bipush (v := nI 17) hx hb dX8_tell_200 (by first | rfl | decide) ?_
            refine lv_iload_n hx hb dX8_tell_202 rfl (lv_at hl 2 rfl) ?_
            refine lv_imul hx hb dX8_tell_203 ?_
            rw [pk_mul (17) (i)]
            refine lv_bipush (v := nI 9) hx hb dX8_tell_204 (by first | rfl | decide) ?_
            refine lv_iadd hx hb dX8_tell_206 ?_
            rw [nI_add ((17 * i)) (9)]
            refine lv_iload_n hx hb dX8_tell_207 rfl (lv_at hl 4 rfl) ?_
            refine rm_sast hx hb hK hM hS hR hF (i := ((17 * i) + 9)) (by omega) dX8_tell_208 (fun M H locs hM hR hF hS => ?_)
            refine lv_aload_n hx hb dX8_tell_209 rfl (lv_at hl 1 rfl) ?_
            refine rm_getS hx hb ht ui_X8 hown hK hM hR (ht _ uw_594) dX8_tell_210 ?_
            refine lv_bipush (v := nI 17) hx hb dX8_tell_213 (by first | rfl | decide) ?_
            refine lv_iload_n hx hb dX8_tell_215 rfl (lv_at hl 2 rfl) ?_
            refine lv_imul hx hb dX8_tell_216 ?_
            rw [pk_mul (17) (i)]
            refine lv_bipush (v := nI 10) hx hb dX8_tell_217 (by first | rfl | decide) ?_
            refine lv_iadd hx hb dX8_tell_219 ?_
            rw [nI_add ((17 * i)) (10)]
            refine lv_iload_n hx hb dX8_tell_220 rfl (lv_at hl 3 rfl) ?_
            refine rm_sast hx hb hK hM hS hR hF (i := ((17 * i) + 10)) (by omega) dX8_tell_221 (fun M H locs hM hR hF hS => ?_)
            refine lv_aload_n hx hb dX8_tell_222 rfl (lv_at hl 1 rfl) ?_
            refine rm_getS hx hb ht ui_X8 hown hK hM hR (ht _ uw_594) dX8_tell_223 ?_
            refine lv_bipush (v := nI 17) hx hb dX8_tell_226 (by first | rfl | decide) ?_
            refine lv_iload_n hx hb dX8_tell_228 rfl (lv_at hl 2 rfl) ?_
            refine lv_imul hx hb dX8_tell_229 ?_
            rw [pk_mul (17) (i)]
            refine lv_bipush (v := nI 11) hx hb dX8_tell_230 (by first | rfl | decide) ?_
            refine lv_iadd hx hb dX8_tell_232 ?_
            rw [nI_add ((17 * i)) (11)]
            refine lv_iload hx hb dX8_tell_233 (lv_at hl 5 rfl) ?_
            refine rm_sast hx hb hK hM hS hR hF (i := ((17 * i) + 11)) (by omega) dX8_tell_235 (fun M H locs hM hR hF hS => ?_)
            refine lv_aload_n hx hb dX8_tell_236 rfl (lv_at hl 1 rfl) ?_
            refine rm_getS hx hb ht ui_X8 hown hK hM hR (ht _ uw_594) dX8_tell_237 ?_
            refine lv_bipush (v := nI 17) hx hb dX8_tell_240 (by first | rfl | decide) ?_
            refine lv_iload_n hx hb dX8_tell_242 rfl (lv_at hl 2 rfl) ?_
            refine lv_imul hx hb dX8_tell_243 ?_
            rw [pk_mul (17) (i)]
            refine lv_bipush (v := nI 12) hx hb dX8_tell_244 (by first | rfl | decide) ?_
            refine lv_iadd hx hb dX8_tell_246 ?_
            rw [nI_add ((17 * i)) (12)]
            refine lv_iload hx hb dX8_tell_247 (lv_at hl 6 rfl) ?_
            refine rm_sast hx hb hK hM hS hR hF (i := ((17 * i) + 12)) (by omega) dX8_tell_249 (fun M H locs hM hR hF hS => ?_)
            subst hQ
            exact m_vret hx hb hr hlk hK hM hS dX8_tell_250 (⟨hR.eqv (tel_T (by first | exact tel_take1 c_8 c_28 | exact tel_take2 c_8 c_39 | exact tel_take3 c_8 c_49) (show tel3 σ i x c9 = n2 from (if_neg c_101).trans e_n2.symm)) rfl rfl, hF⟩)
          · refine lv_iload hx hb dX8_tell_104 (lv_at hl 6 rfl) ?_
            refine lv_aload_n hx hb dX8_tell_106 rfl (lv_at hl 1 rfl) ?_
            refine lv_iload_n hx hb dX8_tell_107 rfl (lv_at hl 2 rfl) ?_
            refine lv_bipush (v := nI 12) hx hb dX8_tell_108 (by first | rfl | decide) ?_
            refine m_callRI (val := σ (17 * i + 12)) (As := [.int (nI i), .int (nI 12)]) (rest := [.int (c9)]) ⟨hx, hb, hml, hown, ht⟩ (k_X8_of l g A M Y σ ar ns hR i 12 (by omega)) (cwV 2 ht (gU uw_650 uw_652 uw_15 uw_42 uw_653) rfl rfl rfl (by decide +kernel) ⟨by decide, by decide⟩) hK hM hS (m_recv hK hM (hR.1 Y (by omega) (by omega)) hR.2.1 rfl) rfl hl.1 rfl (Nat.le_of_ble_eq_true rfl) dX8_tell_110 ⟨by decide, by decide⟩ (fun H locs hM hS => ?_)
            refine lv_isub hx hb dX8_tell_113 ?_
            refine lv_aload_n hx hb dX8_tell_114 rfl (lv_at hl 1 rfl) ?_
            refine lv_iload_n hx hb dX8_tell_115 rfl (lv_at hl 2 rfl) ?_
            refine lv_iconst (v := nI 0) hx hb dX8_tell_116 (by first | rfl | decide) ?_
            refine m_callRI (val := σ (17 * i + 0)) (As := [.int (nI i), .int (nI 0)]) (rest := [.int ((c9) - (σ (17 * i + 12)))]) ⟨hx, hb, hml, hown, ht⟩ (k_X8_of l g A M Y σ ar ns hR i 0 (by omega)) (cwV 2 ht (gU uw_650 uw_652 uw_15 uw_42 uw_653) rfl rfl rfl (by decide +kernel) ⟨by decide, by decide⟩) hK hM hS (m_recv hK hM (hR.1 Y (by omega) (by omega)) hR.2.1 rfl) rfl hl.1 rfl (Nat.le_of_ble_eq_true rfl) dX8_tell_117 ⟨by decide, by decide⟩ (fun H locs hM hS => ?_)
            refine lv_imul hx hb dX8_tell_120 ?_
            refine lv_aload_n hx hb dX8_tell_121 rfl (lv_at hl 1 rfl) ?_
            refine lv_iconst (v := nI 0) hx hb dX8_tell_122 (by first | rfl | decide) ?_
            refine lv_iconst (v := nI 0) hx hb dX8_tell_123 (by first | rfl | decide) ?_
            refine m_callRI (val := σ (17 * 0 + 0)) (As := [.int (nI 0), .int (nI 0)]) (rest := [.int (((c9) - (σ (17 * i + 12))) * (σ (17 * i + 0)))]) ⟨hx, hb, hml, hown, ht⟩ (k_X8_of l g A M Y σ ar ns hR 0 0 (by omega)) (cwV 2 ht (gU uw_650 uw_652 uw_15 uw_42 uw_653) rfl rfl rfl (by decide +kernel) ⟨by decide, by decide⟩) hK hM hS (m_recv hK hM (hR.1 Y (by omega) (by omega)) hR.2.1 rfl) rfl hl.1 rfl (Nat.le_of_ble_eq_true rfl) dX8_tell_124 ⟨by decide, by decide⟩ (fun H locs hM hS => ?_)
            refine lv_idiv hx hb dX8_tell_127 (hm0) ?_
            refine lv_aload_n hx hb dX8_tell_128 rfl (lv_at hl 1 rfl) ?_
            refine lv_iload_n hx hb dX8_tell_129 rfl (lv_at hl 2 rfl) ?_
            refine lv_iconst (v := nI 1) hx hb dX8_tell_130 (by first | rfl | decide) ?_
            refine m_callRI (val := σ (17 * i + 1)) (As := [.int (nI i), .int (nI 1)]) (rest := [.int ((((c9) - (σ (17 * i + 12))) * (σ (17 * i + 0))) / (σ (17 * 0 + 0)))]) ⟨hx, hb, hml, hown, ht⟩ (k_X8_of l g A M Y σ ar ns hR i 1 (by omega)) (cwV 2 ht (gU uw_650 uw_652 uw_15 uw_42 uw_653) rfl rfl rfl (by decide +kernel) ⟨by decide, by decide⟩) hK hM hS (m_recv hK hM (hR.1 Y (by omega) (by omega)) hR.2.1 rfl) rfl hl.1 rfl (Nat.le_of_ble_eq_true rfl) dX8_tell_131 ⟨by decide, by decide⟩ (fun H locs hM hS => ?_)
            refine lv_idiv hx hb dX8_tell_134 (hcu) ?_
            refine lv_topi (fun ee e_ee => ?_)
            refine lv_istore (lv' := [(7, .int (ee)), (6, .int (n2)), (0, .ref (Y)), (1, .int (nI i)), (2, .int (x)), (3, .int (h)), (4, .int (t)), (5, .int (c9))]) hx hb dX8_tell_135 hl (by decide) rfl (fun ls hl => ?_)
            have ee9 : ee = telE σ i c9 := e_ee
            have loop_137 : ∀ (z_137 : Nat) (j : Nat) (y9 : Int32) (H : Heap) (locs : List Loc) (ls : Array Slot), rouK W0 ((telE σ i c9).toInt - (tel2 σ i x).toInt) - j < z_137 → j ≤ rouK W0 ((telE σ i c9).toInt - (tel2 σ i x).toInt) → y9 = n2 + σ 102 * nI j → HD g A M H → va_S A s.heap H locs → lv_has ls 8 [(7, .int (ee)), (6, .int (y9)), (0, .ref (Y)), (1, .int (nI i)), (2, .int (x)), (3, .int (h)), (4, .int (t)), (5, .int (c9))] → W p l e (rmD 1) s m aa below meth c H locs 0 0 Q (F0 m 137 ls []) := by
              intro z_137
              induction z_137 with
              | zero => intro j y9 H locs ls hz hj hyj; exact absurd hz (Nat.not_lt_zero _)
              | succ z_137 ih_137 =>
              intro j y9 H locs ls hz hj hyj hM  hS hl
              have ee9 : ee = telE σ i c9 := e_ee
              refine lv_iload hx hb dX8_tell_137 (lv_at hl 1 rfl) ?_
              refine lv_aload_n hx hb dX8_tell_139 rfl (lv_at hl 2 rfl) ?_
              refine rm_getS hx hb ht ui_X8 hown hK hM hR (ht _ uw_594) dX8_tell_140 ?_
              refine lv_bipush (v := nI 102) hx hb dX8_tell_143 (by first | rfl | decide) ?_
              refine rm_sald hx hb hK hM hR (i := 102) (by omega) dX8_tell_145 ?_
              refine lv_iadd hx hb dX8_tell_146 ?_
              refine lv_iload hx hb dX8_tell_147 (lv_at hl 0 rfl) ?_
              refine lv_isub hx hb dX8_tell_149 ?_
              refine m_callRSI (val := sizC (((y9) + (σ 102)) - (ee))) (As := [.int (((y9) + (σ 102)) - (ee))]) (rest := []) ⟨hx, hb, hml, hown, ht⟩ (k_X8_size l g A M (((y9) + (σ 102)) - (ee))) (cwS 1 ht (gUS uw_687 uw_688 uw_42 uw_689) rfl rfl rfl (by decide +kernel) ⟨by decide, by decide⟩) hK hM hS rfl hl.1 rfl (Nat.le_of_ble_eq_true rfl) dX8_tell_150 ⟨by decide, by decide⟩ (fun H locs hM hS => ?_)
              refine lv_iload hx hb dX8_tell_153 (lv_at hl 1 rfl) ?_
              refine lv_iload hx hb dX8_tell_155 (lv_at hl 0 rfl) ?_
              refine lv_isub hx hb dX8_tell_157 ?_
              refine m_callRSI (val := sizC ((y9) - (ee))) (As := [.int ((y9) - (ee))]) (rest := [.int (sizC (((y9) + (σ 102)) - (ee)))]) ⟨hx, hb, hml, hown, ht⟩ (k_X8_size l g A M ((y9) - (ee))) (cwS 1 ht (gUS uw_687 uw_688 uw_42 uw_689) rfl rfl rfl (by decide +kernel) ⟨by decide, by decide⟩) hK hM hS rfl hl.1 rfl (Nat.le_of_ble_eq_true rfl) dX8_tell_158 ⟨by decide, by decide⟩ (fun H locs hM hS => ?_)
              refine lv_icmp_ge (tgt := 179) hx hb dX8_tell_161 (by decide) (fun c_161 => ?_) (fun c_161 => ?_)
              · have hx9 : tel3 σ i x c9 = y9 := by
                  have hj9 : ¬ j < rouK W0 ((telE σ i c9).toInt - (tel2 σ i x).toInt) := fun z => (Int32.not_lt.mpr c_161) (by have z2 := (rou_step hW4 hW60 ha1 ha2 he1 he2 hj).mpr z; rw [hyj, hW, e_n2, ee9]; exact z2)
                  have hjK : j = rouK W0 ((telE σ i c9).toInt - (tel2 σ i x).toInt) := by omega
                  unfold tel3
                  rw [if_pos (show σ 103 = 1 from c_101), hW, rou_eq hW4 hW60 ha1 ha2 he1 he2, ← hjK, hyj, hW, e_n2]
                refine lv_aload_n hx hb dX8_tell_179 rfl (lv_at hl 2 rfl) ?_
                refine lv_iload_n hx hb dX8_tell_180 rfl (lv_at hl 3 rfl) ?_
                refine lv_bipush (v := nI 8) hx hb dX8_tell_181 (by first | rfl | decide) ?_
                refine lv_iload hx hb dX8_tell_183 (lv_at hl 1 rfl) ?_
                refine m_callV (As := [.int (nI i), .int (nI 8), .int (y9)]) (rest := []) ⟨hx, hb, hml, hown, ht⟩ (k_X8_add l g A M Y σ ar ns hR i 8 (y9) (by omega)) (cwV 3 ht (gU uw_642 uw_644 uw_13 uw_42 uw_645) rfl rfl rfl (by decide +kernel) ⟨by decide, by decide⟩) hK hM hS (m_recv hK hM (hR.1 Y (by omega) (by omega)) hR.2.1 rfl) rfl hl.1 rfl (Nat.le_of_ble_eq_true rfl) dX8_tell_185 ⟨by decide, by decide⟩ (fun M H locs hp hM hS => ?_)
                obtain ⟨hR, hF1⟩ := hp
                have hF := hF.tr hF1
                refine lv_aload_n hx hb dX8_tell_188 rfl (lv_at hl 2 rfl) ?_
                refine lv_iload_n hx hb dX8_tell_189 rfl (lv_at hl 3 rfl) ?_
                refine lv_bipush (v := nI 13) hx hb dX8_tell_190 (by first | rfl | decide) ?_
                refine lv_iconst (v := nI 1) hx hb dX8_tell_192 (by first | rfl | decide) ?_
                refine m_callV (As := [.int (nI i), .int (nI 13), .int (nI 1)]) (rest := []) ⟨hx, hb, hml, hown, ht⟩ (k_X8_add l g A M Y (va_up σ (17 * i + 8) (σ (17 * i + 8) + (y9))) ar ns hR i 13 (nI 1) (by omega)) (cwV 3 ht (gU uw_642 uw_644 uw_13 uw_42 uw_645) rfl rfl rfl (by decide +kernel) ⟨by decide, by decide⟩) hK hM hS (m_recv hK hM (hR.1 Y (by omega) (by omega)) hR.2.1 rfl) rfl hl.1 rfl (Nat.le_of_ble_eq_true rfl) dX8_tell_193 ⟨by decide, by decide⟩ (fun M H locs hp hM hS => ?_)
                obtain ⟨hR, hF1⟩ := hp
                have hF := hF.tr hF1
                refine lv_aload_n hx hb dX8_tell_196 rfl (lv_at hl 2 rfl) ?_
                refine rm_getS hx hb ht ui_X8 hown hK hM hR (ht _ uw_594) dX8_tell_197 ?_
                refine lv_bipush (v := nI 17) hx hb dX8_tell_200 (by first | rfl | decide) ?_
                refine lv_iload_n hx hb dX8_tell_202 rfl (lv_at hl 3 rfl) ?_
                refine lv_imul hx hb dX8_tell_203 ?_
                rw [pk_mul (17) (i)]
                refine lv_bipush (v := nI 9) hx hb dX8_tell_204 (by first | rfl | decide) ?_
                refine lv_iadd hx hb dX8_tell_206 ?_
                rw [nI_add ((17 * i)) (9)]
                refine lv_iload_n hx hb dX8_tell_207 rfl (lv_at hl 5 rfl) ?_
                refine rm_sast hx hb hK hM hS hR hF (i := ((17 * i) + 9)) (by omega) dX8_tell_208 (fun M H locs hM hR hF hS => ?_)
                refine lv_aload_n hx hb dX8_tell_209 rfl (lv_at hl 2 rfl) ?_
                refine rm_getS hx hb ht ui_X8 hown hK hM hR (ht _ uw_594) dX8_tell_210 ?_
                refine lv_bipush (v := nI 17) hx hb dX8_tell_213 (by first | rfl | decide) ?_
                refine lv_iload_n hx hb dX8_tell_215 rfl (lv_at hl 3 rfl) ?_
                refine lv_imul hx hb dX8_tell_216 ?_
                rw [pk_mul (17) (i)]
                refine lv_bipush (v := nI 10) hx hb dX8_tell_217 (by first | rfl | decide) ?_
                refine lv_iadd hx hb dX8_tell_219 ?_
                rw [nI_add ((17 * i)) (10)]
                refine lv_iload_n hx hb dX8_tell_220 rfl (lv_at hl 4 rfl) ?_
                refine rm_sast hx hb hK hM hS hR hF (i := ((17 * i) + 10)) (by omega) dX8_tell_221 (fun M H locs hM hR hF hS => ?_)
                refine lv_aload_n hx hb dX8_tell_222 rfl (lv_at hl 2 rfl) ?_
                refine rm_getS hx hb ht ui_X8 hown hK hM hR (ht _ uw_594) dX8_tell_223 ?_
                refine lv_bipush (v := nI 17) hx hb dX8_tell_226 (by first | rfl | decide) ?_
                refine lv_iload_n hx hb dX8_tell_228 rfl (lv_at hl 3 rfl) ?_
                refine lv_imul hx hb dX8_tell_229 ?_
                rw [pk_mul (17) (i)]
                refine lv_bipush (v := nI 11) hx hb dX8_tell_230 (by first | rfl | decide) ?_
                refine lv_iadd hx hb dX8_tell_232 ?_
                rw [nI_add ((17 * i)) (11)]
                refine lv_iload hx hb dX8_tell_233 (lv_at hl 6 rfl) ?_
                refine rm_sast hx hb hK hM hS hR hF (i := ((17 * i) + 11)) (by omega) dX8_tell_235 (fun M H locs hM hR hF hS => ?_)
                refine lv_aload_n hx hb dX8_tell_236 rfl (lv_at hl 2 rfl) ?_
                refine rm_getS hx hb ht ui_X8 hown hK hM hR (ht _ uw_594) dX8_tell_237 ?_
                refine lv_bipush (v := nI 17) hx hb dX8_tell_240 (by first | rfl | decide) ?_
                refine lv_iload_n hx hb dX8_tell_242 rfl (lv_at hl 3 rfl) ?_
                refine lv_imul hx hb dX8_tell_243 ?_
                rw [pk_mul (17) (i)]
                refine lv_bipush (v := nI 12) hx hb dX8_tell_244 (by first | rfl | decide) ?_
                refine lv_iadd hx hb dX8_tell_246 ?_
                rw [nI_add ((17 * i)) (12)]
                refine lv_iload hx hb dX8_tell_247 (lv_at hl 7 rfl) ?_
                refine rm_sast hx hb hK hM hS hR hF (i := ((17 * i) + 12)) (by omega) dX8_tell_249 (fun M H locs hM hR hF hS => ?_)
                subst hQ
                exact m_vret hx hb hr hlk hK hM hS dX8_tell_250 (⟨hR.eqv (tel_T (by first | exact tel_take1 c_8 c_28 | exact tel_take2 c_8 c_39 | exact tel_take3 c_8 c_49) hx9) rfl rfl, hF⟩)
              · have hj9 := (rou_step hW4 hW60 ha1 ha2 he1 he2 hj).mp (by have z := Int32.not_le.mp c_161; rw [hyj, hW, e_n2, ee9] at z; exact z)
                refine lv_iload hx hb dX8_tell_164 (lv_at hl 1 rfl) ?_
                refine lv_aload_n hx hb dX8_tell_166 rfl (lv_at hl 2 rfl) ?_
                refine rm_getS hx hb ht ui_X8 hown hK hM hR (ht _ uw_594) dX8_tell_167 ?_
                refine lv_bipush (v := nI 102) hx hb dX8_tell_170 (by first | rfl | decide) ?_
                refine rm_sald hx hb hK hM hR (i := 102) (by omega) dX8_tell_172 ?_
                refine lv_iadd hx hb dX8_tell_173 ?_
                refine lv_istore (lv' := [(6, .int ((y9) + (σ 102))), (7, .int (ee)), (0, .ref (Y)), (1, .int (nI i)), (2, .int (x)), (3, .int (h)), (4, .int (t)), (5, .int (c9))]) hx hb dX8_tell_174 hl (by decide) rfl (fun ls hl => ?_)
                refine lv_goto (tgt := 137) hx hb dX8_tell_176 (by decide) ?_
                have ee9 : ee = telE σ i c9 := e_ee
                exact ih_137 (j + 1) (y9 + σ 102) _ _ _ (by omega) (by omega) (by rw [hyj, hW]; exact rou_next j) hM hS (lv_sub hl [1, 0, 2, 3, 4, 5, 6, 7] rfl)
            exact loop_137 _ 0 n2 _ _ _ (Nat.lt_succ_self _) (Nat.zero_le _) (by rw [show nI 0 = 0 from rfl, Int32.mul_zero, Int32.add_zero]) hM hS (lv_sub hl [0, 1, 2, 3, 4, 5, 6, 7] rfl)
        · refine lv_aload_n hx hb dX8_tell_79 rfl (lv_at hl 1 rfl) ?_
          refine rm_getS hx hb ht ui_X8 hown hK hM hR (ht _ uw_594) dX8_tell_80 ?_
          refine lv_bipush (v := nI 102) hx hb dX8_tell_83 (by first | rfl | decide) ?_
          refine rm_sald hx hb hK hM hR (i := 102) (by omega) dX8_tell_85 ?_
          refine lv_goto (tgt := 90) hx hb dX8_tell_86 (by decide) ?_
          refine lv_iadd hx hb dX8_tell_90 ?_
          refine lv_topi (fun n2 e_n2 => ?_)
          refine lv_istore (lv' := [(6, .int (n2)), (0, .ref (Y)), (1, .int (nI i)), (2, .int (x)), (3, .int (h)), (4, .int (t)), (5, .int (c9))]) hx hb dX8_tell_91 hl (by decide) rfl (fun ls hl => ?_)
          have e_n2 : n2 = tel2 σ i x := e_n2.trans (by rw [e_n1]; exact (if_pos (by rw [← e_n1]; exact Int32.not_le.mp c_76)).symm)
          refine lv_aload_n hx hb dX8_tell_93 rfl (lv_at hl 1 rfl) ?_
          refine rm_getS hx hb ht ui_X8 hown hK hM hR (ht _ uw_594) dX8_tell_94 ?_
          refine lv_bipush (v := nI 103) hx hb dX8_tell_97 (by first | rfl | decide) ?_
          refine rm_sald hx hb hK hM hR (i := 103) (by omega) dX8_tell_99 ?_
          refine lv_iconst (v := nI 1) hx hb dX8_tell_100 (by first | rfl | decide) ?_
          refine lv_icmp_ne (tgt := 179) hx hb dX8_tell_101 (by decide) (fun c_101 => ?_) (fun c_101 => ?_)
          · refine lv_aload_n hx hb dX8_tell_179 rfl (lv_at hl 1 rfl) ?_
            refine lv_iload_n hx hb dX8_tell_180 rfl (lv_at hl 2 rfl) ?_
            refine lv_bipush (v := nI 8) hx hb dX8_tell_181 (by first | rfl | decide) ?_
            refine lv_iload hx hb dX8_tell_183 (lv_at hl 0 rfl) ?_
            refine m_callV (As := [.int (nI i), .int (nI 8), .int (n2)]) (rest := []) ⟨hx, hb, hml, hown, ht⟩ (k_X8_add l g A M Y σ ar ns hR i 8 (n2) (by omega)) (cwV 3 ht (gU uw_642 uw_644 uw_13 uw_42 uw_645) rfl rfl rfl (by decide +kernel) ⟨by decide, by decide⟩) hK hM hS (m_recv hK hM (hR.1 Y (by omega) (by omega)) hR.2.1 rfl) rfl hl.1 rfl (Nat.le_of_ble_eq_true rfl) dX8_tell_185 ⟨by decide, by decide⟩ (fun M H locs hp hM hS => ?_)
            obtain ⟨hR, hF1⟩ := hp
            have hF := hF.tr hF1
            refine lv_aload_n hx hb dX8_tell_188 rfl (lv_at hl 1 rfl) ?_
            refine lv_iload_n hx hb dX8_tell_189 rfl (lv_at hl 2 rfl) ?_
            refine lv_bipush (v := nI 13) hx hb dX8_tell_190 (by first | rfl | decide) ?_
            refine lv_iconst (v := nI 1) hx hb dX8_tell_192 (by first | rfl | decide) ?_
            refine m_callV (As := [.int (nI i), .int (nI 13), .int (nI 1)]) (rest := []) ⟨hx, hb, hml, hown, ht⟩ (k_X8_add l g A M Y (va_up σ (17 * i + 8) (σ (17 * i + 8) + (n2))) ar ns hR i 13 (nI 1) (by omega)) (cwV 3 ht (gU uw_642 uw_644 uw_13 uw_42 uw_645) rfl rfl rfl (by decide +kernel) ⟨by decide, by decide⟩) hK hM hS (m_recv hK hM (hR.1 Y (by omega) (by omega)) hR.2.1 rfl) rfl hl.1 rfl (Nat.le_of_ble_eq_true rfl) dX8_tell_193 ⟨by decide, by decide⟩ (fun M H locs hp hM hS => ?_)
            obtain ⟨hR, hF1⟩ := hp
            have hF := hF.tr hF1
            refine lv_aload_n hx hb dX8_tell_196 rfl (lv_at hl 1 rfl) ?_
            refine rm_getS hx hb ht ui_X8 hown hK hM hR (ht _ uw_594) dX8_tell_197 ?_
            refine lv_bipush (v := nI 17) hx hb dX8_tell_200 (by first | rfl | decide) ?_
            refine lv_iload_n hx hb dX8_tell_202 rfl (lv_at hl 2 rfl) ?_
            refine lv_imul hx hb dX8_tell_203 ?_
            rw [pk_mul (17) (i)]
            refine lv_bipush (v := nI 9) hx hb dX8_tell_204 (by first | rfl | decide) ?_
            refine lv_iadd hx hb dX8_tell_206 ?_
            rw [nI_add ((17 * i)) (9)]
            refine lv_iload_n hx hb dX8_tell_207 rfl (lv_at hl 4 rfl) ?_
            refine rm_sast hx hb hK hM hS hR hF (i := ((17 * i) + 9)) (by omega) dX8_tell_208 (fun M H locs hM hR hF hS => ?_)
            refine lv_aload_n hx hb dX8_tell_209 rfl (lv_at hl 1 rfl) ?_
            refine rm_getS hx hb ht ui_X8 hown hK hM hR (ht _ uw_594) dX8_tell_210 ?_
            refine lv_bipush (v := nI 17) hx hb dX8_tell_213 (by first | rfl | decide) ?_
            refine lv_iload_n hx hb dX8_tell_215 rfl (lv_at hl 2 rfl) ?_
            refine lv_imul hx hb dX8_tell_216 ?_
            rw [pk_mul (17) (i)]
            refine lv_bipush (v := nI 10) hx hb dX8_tell_217 (by first | rfl | decide) ?_
            refine lv_iadd hx hb dX8_tell_219 ?_
            rw [nI_add ((17 * i)) (10)]
            refine lv_iload_n hx hb dX8_tell_220 rfl (lv_at hl 3 rfl) ?_
            refine rm_sast hx hb hK hM hS hR hF (i := ((17 * i) + 10)) (by omega) dX8_tell_221 (fun M H locs hM hR hF hS => ?_)
            refine lv_aload_n hx hb dX8_tell_222 rfl (lv_at hl 1 rfl) ?_
            refine rm_getS hx hb ht ui_X8 hown hK hM hR (ht _ uw_594) dX8_tell_223 ?_
            refine lv_bipush (v := nI 17) hx hb dX8_tell_226 (by first | rfl | decide) ?_
            refine lv_iload_n hx hb dX8_tell_228 rfl (lv_at hl 2 rfl) ?_
            refine lv_imul hx hb dX8_tell_229 ?_
            rw [pk_mul (17) (i)]
            refine lv_bipush (v := nI 11) hx hb dX8_tell_230 (by first | rfl | decide) ?_
            refine lv_iadd hx hb dX8_tell_232 ?_
            rw [nI_add ((17 * i)) (11)]
            refine lv_iload hx hb dX8_tell_233 (lv_at hl 5 rfl) ?_
            refine rm_sast hx hb hK hM hS hR hF (i := ((17 * i) + 11)) (by omega) dX8_tell_235 (fun M H locs hM hR hF hS => ?_)
            refine lv_aload_n hx hb dX8_tell_236 rfl (lv_at hl 1 rfl) ?_
            refine rm_getS hx hb ht ui_X8 hown hK hM hR (ht _ uw_594) dX8_tell_237 ?_
            refine lv_bipush (v := nI 17) hx hb dX8_tell_240 (by first | rfl | decide) ?_
            refine lv_iload_n hx hb dX8_tell_242 rfl (lv_at hl 2 rfl) ?_
            refine lv_imul hx hb dX8_tell_243 ?_
            rw [pk_mul (17) (i)]
            refine lv_bipush (v := nI 12) hx hb dX8_tell_244 (by first | rfl | decide) ?_
            refine lv_iadd hx hb dX8_tell_246 ?_
            rw [nI_add ((17 * i)) (12)]
            refine lv_iload hx hb dX8_tell_247 (lv_at hl 6 rfl) ?_
            refine rm_sast hx hb hK hM hS hR hF (i := ((17 * i) + 12)) (by omega) dX8_tell_249 (fun M H locs hM hR hF hS => ?_)
            subst hQ
            exact m_vret hx hb hr hlk hK hM hS dX8_tell_250 (⟨hR.eqv (tel_T (by first | exact tel_take1 c_8 c_28 | exact tel_take2 c_8 c_39 | exact tel_take3 c_8 c_49) (show tel3 σ i x c9 = n2 from (if_neg c_101).trans e_n2.symm)) rfl rfl, hF⟩)
          · refine lv_iload hx hb dX8_tell_104 (lv_at hl 6 rfl) ?_
            refine lv_aload_n hx hb dX8_tell_106 rfl (lv_at hl 1 rfl) ?_
            refine lv_iload_n hx hb dX8_tell_107 rfl (lv_at hl 2 rfl) ?_
            refine lv_bipush (v := nI 12) hx hb dX8_tell_108 (by first | rfl | decide) ?_
            refine m_callRI (val := σ (17 * i + 12)) (As := [.int (nI i), .int (nI 12)]) (rest := [.int (c9)]) ⟨hx, hb, hml, hown, ht⟩ (k_X8_of l g A M Y σ ar ns hR i 12 (by omega)) (cwV 2 ht (gU uw_650 uw_652 uw_15 uw_42 uw_653) rfl rfl rfl (by decide +kernel) ⟨by decide, by decide⟩) hK hM hS (m_recv hK hM (hR.1 Y (by omega) (by omega)) hR.2.1 rfl) rfl hl.1 rfl (Nat.le_of_ble_eq_true rfl) dX8_tell_110 ⟨by decide, by decide⟩ (fun H locs hM hS => ?_)
            refine lv_isub hx hb dX8_tell_113 ?_
            refine lv_aload_n hx hb dX8_tell_114 rfl (lv_at hl 1 rfl) ?_
            refine lv_iload_n hx hb dX8_tell_115 rfl (lv_at hl 2 rfl) ?_
            refine lv_iconst (v := nI 0) hx hb dX8_tell_116 (by first | rfl | decide) ?_
            refine m_callRI (val := σ (17 * i + 0)) (As := [.int (nI i), .int (nI 0)]) (rest := [.int ((c9) - (σ (17 * i + 12)))]) ⟨hx, hb, hml, hown, ht⟩ (k_X8_of l g A M Y σ ar ns hR i 0 (by omega)) (cwV 2 ht (gU uw_650 uw_652 uw_15 uw_42 uw_653) rfl rfl rfl (by decide +kernel) ⟨by decide, by decide⟩) hK hM hS (m_recv hK hM (hR.1 Y (by omega) (by omega)) hR.2.1 rfl) rfl hl.1 rfl (Nat.le_of_ble_eq_true rfl) dX8_tell_117 ⟨by decide, by decide⟩ (fun H locs hM hS => ?_)
            refine lv_imul hx hb dX8_tell_120 ?_
            refine lv_aload_n hx hb dX8_tell_121 rfl (lv_at hl 1 rfl) ?_
            refine lv_iconst (v := nI 0) hx hb dX8_tell_122 (by first | rfl | decide) ?_
            refine lv_iconst (v := nI 0) hx hb dX8_tell_123 (by first | rfl | decide) ?_
            refine m_callRI (val := σ (17 * 0 + 0)) (As := [.int (nI 0), .int (nI 0)]) (rest := [.int (((c9) - (σ (17 * i + 12))) * (σ (17 * i + 0)))]) ⟨hx, hb, hml, hown, ht⟩ (k_X8_of l g A M Y σ ar ns hR 0 0 (by omega)) (cwV 2 ht (gU uw_650 uw_652 uw_15 uw_42 uw_653) rfl rfl rfl (by decide +kernel) ⟨by decide, by decide⟩) hK hM hS (m_recv hK hM (hR.1 Y (by omega) (by omega)) hR.2.1 rfl) rfl hl.1 rfl (Nat.le_of_ble_eq_true rfl) dX8_tell_124 ⟨by decide, by decide⟩ (fun H locs hM hS => ?_)
            refine lv_idiv hx hb dX8_tell_127 (hm0) ?_
            refine lv_aload_n hx hb dX8_tell_128 rfl (lv_at hl 1 rfl) ?_
            refine lv_iload_n hx hb dX8_tell_129 rfl (lv_at hl 2 rfl) ?_
            refine lv_iconst (v := nI 1) hx hb dX8_tell_130 (by first | rfl | decide) ?_
            refine m_callRI (val := σ (17 * i + 1)) (As := [.int (nI i), .int (nI 1)]) (rest := [.int ((((c9) - (σ (17 * i + 12))) * (σ (17 * i + 0))) / (σ (17 * 0 + 0)))]) ⟨hx, hb, hml, hown, ht⟩ (k_X8_of l g A M Y σ ar ns hR i 1 (by omega)) (cwV 2 ht (gU uw_650 uw_652 uw_15 uw_42 uw_653) rfl rfl rfl (by decide +kernel) ⟨by decide, by decide⟩) hK hM hS (m_recv hK hM (hR.1 Y (by omega) (by omega)) hR.2.1 rfl) rfl hl.1 rfl (Nat.le_of_ble_eq_true rfl) dX8_tell_131 ⟨by decide, by decide⟩ (fun H locs hM hS => ?_)
            refine lv_idiv hx hb dX8_tell_134 (hcu) ?_
            refine lv_topi (fun ee e_ee => ?_)
            refine lv_istore (lv' := [(7, .int (ee)), (6, .int (n2)), (0, .ref (Y)), (1, .int (nI i)), (2, .int (x)), (3, .int (h)), (4, .int (t)), (5, .int (c9))]) hx hb dX8_tell_135 hl (by decide) rfl (fun ls hl => ?_)
            have ee9 : ee = telE σ i c9 := e_ee
            have loop_137 : ∀ (z_137 : Nat) (j : Nat) (y9 : Int32) (H : Heap) (locs : List Loc) (ls : Array Slot), rouK W0 ((telE σ i c9).toInt - (tel2 σ i x).toInt) - j < z_137 → j ≤ rouK W0 ((telE σ i c9).toInt - (tel2 σ i x).toInt) → y9 = n2 + σ 102 * nI j → HD g A M H → va_S A s.heap H locs → lv_has ls 8 [(7, .int (ee)), (6, .int (y9)), (0, .ref (Y)), (1, .int (nI i)), (2, .int (x)), (3, .int (h)), (4, .int (t)), (5, .int (c9))] → W p l e (rmD 1) s m aa below meth c H locs 0 0 Q (F0 m 137 ls []) := by
              intro z_137
              induction z_137 with
              | zero => intro j y9 H locs ls hz hj hyj; exact absurd hz (Nat.not_lt_zero _)
              | succ z_137 ih_137 =>
              intro j y9 H locs ls hz hj hyj hM  hS hl
              have ee9 : ee = telE σ i c9 := e_ee
              refine lv_iload hx hb dX8_tell_137 (lv_at hl 1 rfl) ?_
              refine lv_aload_n hx hb dX8_tell_139 rfl (lv_at hl 2 rfl) ?_
              refine rm_getS hx hb ht ui_X8 hown hK hM hR (ht _ uw_594) dX8_tell_140 ?_
              refine lv_bipush (v := nI 102) hx hb dX8_tell_143 (by first | rfl | decide) ?_
              refine rm_sald hx hb hK hM hR (i := 102) (by omega) dX8_tell_145 ?_
              refine lv_iadd hx hb dX8_tell_146 ?_
              refine lv_iload hx hb dX8_tell_147 (lv_at hl 0 rfl) ?_
              refine lv_isub hx hb dX8_tell_149 ?_
              refine m_callRSI (val := sizC (((y9) + (σ 102)) - (ee))) (As := [.int (((y9) + (σ 102)) - (ee))]) (rest := []) ⟨hx, hb, hml, hown, ht⟩ (k_X8_size l g A M (((y9) + (σ 102)) - (ee))) (cwS 1 ht (gUS uw_687 uw_688 uw_42 uw_689) rfl rfl rfl (by decide +kernel) ⟨by decide, by decide⟩) hK hM hS rfl hl.1 rfl (Nat.le_of_ble_eq_true rfl) dX8_tell_150 ⟨by decide, by decide⟩ (fun H locs hM hS => ?_)
              refine lv_iload hx hb dX8_tell_153 (lv_at hl 1 rfl) ?_
              refine lv_iload hx hb dX8_tell_155 (lv_at hl 0 rfl) ?_
              refine lv_isub hx hb dX8_tell_157 ?_
              refine m_callRSI (val := sizC ((y9) - (ee))) (As := [.int ((y9) - (ee))]) (rest := [.int (sizC (((y9) + (σ 102)) - (ee)))]) ⟨hx, hb, hml, hown, ht⟩ (k_X8_size l g A M ((y9) - (ee))) (cwS 1 ht (gUS uw_687 uw_688 uw_42 uw_689) rfl rfl rfl (by decide +kernel) ⟨by decide, by decide⟩) hK hM hS rfl hl.1 rfl (Nat.le_of_ble_eq_true rfl) dX8_tell_158 ⟨by decide, by decide⟩ (fun H locs hM hS => ?_)
              refine lv_icmp_ge (tgt := 179) hx hb dX8_tell_161 (by decide) (fun c_161 => ?_) (fun c_161 => ?_)
              · have hx9 : tel3 σ i x c9 = y9 := by
                  have hj9 : ¬ j < rouK W0 ((telE σ i c9).toInt - (tel2 σ i x).toInt) := fun z => (Int32.not_lt.mpr c_161) (by have z2 := (rou_step hW4 hW60 ha1 ha2 he1 he2 hj).mpr z; rw [hyj, hW, e_n2, ee9]; exact z2)
                  have hjK : j = rouK W0 ((telE σ i c9).toInt - (tel2 σ i x).toInt) := by omega
                  unfold tel3
                  rw [if_pos (show σ 103 = 1 from c_101), hW, rou_eq hW4 hW60 ha1 ha2 he1 he2, ← hjK, hyj, hW, e_n2]
                refine lv_aload_n hx hb dX8_tell_179 rfl (lv_at hl 2 rfl) ?_
                refine lv_iload_n hx hb dX8_tell_180 rfl (lv_at hl 3 rfl) ?_
                refine lv_bipush (v := nI 8) hx hb dX8_tell_181 (by first | rfl | decide) ?_
                refine lv_iload hx hb dX8_tell_183 (lv_at hl 1 rfl) ?_
                refine m_callV (As := [.int (nI i), .int (nI 8), .int (y9)]) (rest := []) ⟨hx, hb, hml, hown, ht⟩ (k_X8_add l g A M Y σ ar ns hR i 8 (y9) (by omega)) (cwV 3 ht (gU uw_642 uw_644 uw_13 uw_42 uw_645) rfl rfl rfl (by decide +kernel) ⟨by decide, by decide⟩) hK hM hS (m_recv hK hM (hR.1 Y (by omega) (by omega)) hR.2.1 rfl) rfl hl.1 rfl (Nat.le_of_ble_eq_true rfl) dX8_tell_185 ⟨by decide, by decide⟩ (fun M H locs hp hM hS => ?_)
                obtain ⟨hR, hF1⟩ := hp
                have hF := hF.tr hF1
                refine lv_aload_n hx hb dX8_tell_188 rfl (lv_at hl 2 rfl) ?_
                refine lv_iload_n hx hb dX8_tell_189 rfl (lv_at hl 3 rfl) ?_
                refine lv_bipush (v := nI 13) hx hb dX8_tell_190 (by first | rfl | decide) ?_
                refine lv_iconst (v := nI 1) hx hb dX8_tell_192 (by first | rfl | decide) ?_
                refine m_callV (As := [.int (nI i), .int (nI 13), .int (nI 1)]) (rest := []) ⟨hx, hb, hml, hown, ht⟩ (k_X8_add l g A M Y (va_up σ (17 * i + 8) (σ (17 * i + 8) + (y9))) ar ns hR i 13 (nI 1) (by omega)) (cwV 3 ht (gU uw_642 uw_644 uw_13 uw_42 uw_645) rfl rfl rfl (by decide +kernel) ⟨by decide, by decide⟩) hK hM hS (m_recv hK hM (hR.1 Y (by omega) (by omega)) hR.2.1 rfl) rfl hl.1 rfl (Nat.le_of_ble_eq_true rfl) dX8_tell_193 ⟨by decide, by decide⟩ (fun M H locs hp hM hS => ?_)
                obtain ⟨hR, hF1⟩ := hp
                have hF := hF.tr hF1
                refine lv_aload_n hx hb dX8_tell_196 rfl (lv_at hl 2 rfl) ?_
                refine rm_getS hx hb ht ui_X8 hown hK hM hR (ht _ uw_594) dX8_tell_197 ?_
                refine lv_bipush (v := nI 17) hx hb dX8_tell_200 (by first | rfl | decide) ?_
                refine lv_iload_n hx hb dX8_tell_202 rfl (lv_at hl 3 rfl) ?_
                refine lv_imul hx hb dX8_tell_203 ?_
                rw [pk_mul (17) (i)]
                refine lv_bipush (v := nI 9) hx hb dX8_tell_204 (by first | rfl | decide) ?_
                refine lv_iadd hx hb dX8_tell_206 ?_
                rw [nI_add ((17 * i)) (9)]
                refine lv_iload_n hx hb dX8_tell_207 rfl (lv_at hl 5 rfl) ?_
                refine rm_sast hx hb hK hM hS hR hF (i := ((17 * i) + 9)) (by omega) dX8_tell_208 (fun M H locs hM hR hF hS => ?_)
                refine lv_aload_n hx hb dX8_tell_209 rfl (lv_at hl 2 rfl) ?_
                refine rm_getS hx hb ht ui_X8 hown hK hM hR (ht _ uw_594) dX8_tell_210 ?_
                refine lv_bipush (v := nI 17) hx hb dX8_tell_213 (by first | rfl | decide) ?_
                refine lv_iload_n hx hb dX8_tell_215 rfl (lv_at hl 3 rfl) ?_
                refine lv_imul hx hb dX8_tell_216 ?_
                rw [pk_mul (17) (i)]
                refine lv_bipush (v := nI 10) hx hb dX8_tell_217 (by first | rfl | decide) ?_
                refine lv_iadd hx hb dX8_tell_219 ?_
                rw [nI_add ((17 * i)) (10)]
                refine lv_iload_n hx hb dX8_tell_220 rfl (lv_at hl 4 rfl) ?_
                refine rm_sast hx hb hK hM hS hR hF (i := ((17 * i) + 10)) (by omega) dX8_tell_221 (fun M H locs hM hR hF hS => ?_)
                refine lv_aload_n hx hb dX8_tell_222 rfl (lv_at hl 2 rfl) ?_
                refine rm_getS hx hb ht ui_X8 hown hK hM hR (ht _ uw_594) dX8_tell_223 ?_
                refine lv_bipush (v := nI 17) hx hb dX8_tell_226 (by first | rfl | decide) ?_
                refine lv_iload_n hx hb dX8_tell_228 rfl (lv_at hl 3 rfl) ?_
                refine lv_imul hx hb dX8_tell_229 ?_
                rw [pk_mul (17) (i)]
                refine lv_bipush (v := nI 11) hx hb dX8_tell_230 (by first | rfl | decide) ?_
                refine lv_iadd hx hb dX8_tell_232 ?_
                rw [nI_add ((17 * i)) (11)]
                refine lv_iload hx hb dX8_tell_233 (lv_at hl 6 rfl) ?_
                refine rm_sast hx hb hK hM hS hR hF (i := ((17 * i) + 11)) (by omega) dX8_tell_235 (fun M H locs hM hR hF hS => ?_)
                refine lv_aload_n hx hb dX8_tell_236 rfl (lv_at hl 2 rfl) ?_
                refine rm_getS hx hb ht ui_X8 hown hK hM hR (ht _ uw_594) dX8_tell_237 ?_
                refine lv_bipush (v := nI 17) hx hb dX8_tell_240 (by first | rfl | decide) ?_
                refine lv_iload_n hx hb dX8_tell_242 rfl (lv_at hl 3 rfl) ?_
                refine lv_imul hx hb dX8_tell_243 ?_
                rw [pk_mul (17) (i)]
                refine lv_bipush (v := nI 12) hx hb dX8_tell_244 (by first | rfl | decide) ?_
                refine lv_iadd hx hb dX8_tell_246 ?_
                rw [nI_add ((17 * i)) (12)]
                refine lv_iload hx hb dX8_tell_247 (lv_at hl 7 rfl) ?_
                refine rm_sast hx hb hK hM hS hR hF (i := ((17 * i) + 12)) (by omega) dX8_tell_249 (fun M H locs hM hR hF hS => ?_)
                subst hQ
                exact m_vret hx hb hr hlk hK hM hS dX8_tell_250 (⟨hR.eqv (tel_T (by first | exact tel_take1 c_8 c_28 | exact tel_take2 c_8 c_39 | exact tel_take3 c_8 c_49) hx9) rfl rfl, hF⟩)
              · have hj9 := (rou_step hW4 hW60 ha1 ha2 he1 he2 hj).mp (by have z := Int32.not_le.mp c_161; rw [hyj, hW, e_n2, ee9] at z; exact z)
                refine lv_iload hx hb dX8_tell_164 (lv_at hl 1 rfl) ?_
                refine lv_aload_n hx hb dX8_tell_166 rfl (lv_at hl 2 rfl) ?_
                refine rm_getS hx hb ht ui_X8 hown hK hM hR (ht _ uw_594) dX8_tell_167 ?_
                refine lv_bipush (v := nI 102) hx hb dX8_tell_170 (by first | rfl | decide) ?_
                refine rm_sald hx hb hK hM hR (i := 102) (by omega) dX8_tell_172 ?_
                refine lv_iadd hx hb dX8_tell_173 ?_
                refine lv_istore (lv' := [(6, .int ((y9) + (σ 102))), (7, .int (ee)), (0, .ref (Y)), (1, .int (nI i)), (2, .int (x)), (3, .int (h)), (4, .int (t)), (5, .int (c9))]) hx hb dX8_tell_174 hl (by decide) rfl (fun ls hl => ?_)
                refine lv_goto (tgt := 137) hx hb dX8_tell_176 (by decide) ?_
                have ee9 : ee = telE σ i c9 := e_ee
                exact ih_137 (j + 1) (y9 + σ 102) _ _ _ (by omega) (by omega) (by rw [hyj, hW]; exact rou_next j) hM hS (lv_sub hl [1, 0, 2, 3, 4, 5, 6, 7] rfl)
            exact loop_137 _ 0 n2 _ _ _ (Nat.lt_succ_self _) (Nat.zero_le _) (by rw [show nI 0 = 0 from rfl, Int32.mul_zero, Int32.add_zero]) hM hS (lv_sub hl [0, 1, 2, 3, 4, 5, 6, 7] rfl)
      · refine lv_aload_n hx hb dX8_tell_42 rfl (lv_at hl 0 rfl) ?_
        refine lv_iload_n hx hb dX8_tell_43 rfl (lv_at hl 1 rfl) ?_
        refine lv_bipush (v := nI 13) hx hb dX8_tell_44 (by first | rfl | decide) ?_
        refine m_callRI (val := σ (17 * i + 13)) (As := [.int (nI i), .int (nI 13)]) (rest := []) ⟨hx, hb, hml, hown, ht⟩ (k_X8_of l g A M Y σ ar ns hR i 13 (by omega)) (cwV 2 ht (gU uw_650 uw_652 uw_15 uw_42 uw_653) rfl rfl rfl (by decide +kernel) ⟨by decide, by decide⟩) hK hM hS (m_recv hK hM (hR.1 Y (by omega) (by omega)) hR.2.1 rfl) rfl hl.1 rfl (Nat.le_of_ble_eq_true rfl) dX8_tell_46 ⟨by decide, by decide⟩ (fun H locs hM hS => ?_)
        refine lv_if_le (tgt := 61) hx hb dX8_tell_49 (by decide) (fun c_49 => ?_) (fun c_49 => ?_)
        · refine lv_iload_n hx hb dX8_tell_61 rfl (lv_at hl 2 rfl) ?_
          refine lv_aload_n hx hb dX8_tell_62 rfl (lv_at hl 0 rfl) ?_
          refine lv_iload_n hx hb dX8_tell_63 rfl (lv_at hl 1 rfl) ?_
          refine lv_bipush (v := nI 10) hx hb dX8_tell_64 (by first | rfl | decide) ?_
          refine m_callRI (val := σ (17 * i + 10)) (As := [.int (nI i), .int (nI 10)]) (rest := [.int (x)]) ⟨hx, hb, hml, hown, ht⟩ (k_X8_of l g A M Y σ ar ns hR i 10 (by omega)) (cwV 2 ht (gU uw_650 uw_652 uw_15 uw_42 uw_653) rfl rfl rfl (by decide +kernel) ⟨by decide, by decide⟩) hK hM hS (m_recv hK hM (hR.1 Y (by omega) (by omega)) hR.2.1 rfl) rfl hl.1 rfl (Nat.le_of_ble_eq_true rfl) dX8_tell_66 ⟨by decide, by decide⟩ (fun H locs hM hS => ?_)
          refine lv_isub hx hb dX8_tell_69 ?_
          refine lv_topi (fun n1 e_n1 => ?_)
          refine lv_istore (lv' := [(6, .int (n1)), (0, .ref (Y)), (1, .int (nI i)), (2, .int (x)), (3, .int (h)), (4, .int (t)), (5, .int (c9))]) hx hb dX8_tell_70 hl (by decide) rfl (fun ls hl => ?_)
          refine lv_iload hx hb dX8_tell_72 (lv_at hl 0 rfl) ?_
          refine lv_iload hx hb dX8_tell_74 (lv_at hl 0 rfl) ?_
          refine lv_if_ge (tgt := 89) hx hb dX8_tell_76 (by decide) (fun c_76 => ?_) (fun c_76 => ?_)
          · refine lv_iconst (v := nI 0) hx hb dX8_tell_89 (by first | rfl | decide) ?_
            refine lv_iadd hx hb dX8_tell_90 ?_
            refine lv_topi (fun n2 e_n2 => ?_)
            refine lv_istore (lv' := [(6, .int (n2)), (0, .ref (Y)), (1, .int (nI i)), (2, .int (x)), (3, .int (h)), (4, .int (t)), (5, .int (c9))]) hx hb dX8_tell_91 hl (by decide) rfl (fun ls hl => ?_)
            have e_n2 : n2 = tel2 σ i x := e_n2.trans (by rw [e_n1]; exact (if_neg (by rw [← e_n1]; exact Int32.not_lt.mpr c_76)).symm)
            refine lv_aload_n hx hb dX8_tell_93 rfl (lv_at hl 1 rfl) ?_
            refine rm_getS hx hb ht ui_X8 hown hK hM hR (ht _ uw_594) dX8_tell_94 ?_
            refine lv_bipush (v := nI 103) hx hb dX8_tell_97 (by first | rfl | decide) ?_
            refine rm_sald hx hb hK hM hR (i := 103) (by omega) dX8_tell_99 ?_
            refine lv_iconst (v := nI 1) hx hb dX8_tell_100 (by first | rfl | decide) ?_
            refine lv_icmp_ne (tgt := 179) hx hb dX8_tell_101 (by decide) (fun c_101 => ?_) (fun c_101 => ?_)
            · refine lv_aload_n hx hb dX8_tell_179 rfl (lv_at hl 1 rfl) ?_
              refine lv_iload_n hx hb dX8_tell_180 rfl (lv_at hl 2 rfl) ?_
              refine lv_bipush (v := nI 8) hx hb dX8_tell_181 (by first | rfl | decide) ?_
              refine lv_iload hx hb dX8_tell_183 (lv_at hl 0 rfl) ?_
              refine m_callV (As := [.int (nI i), .int (nI 8), .int (n2)]) (rest := []) ⟨hx, hb, hml, hown, ht⟩ (k_X8_add l g A M Y σ ar ns hR i 8 (n2) (by omega)) (cwV 3 ht (gU uw_642 uw_644 uw_13 uw_42 uw_645) rfl rfl rfl (by decide +kernel) ⟨by decide, by decide⟩) hK hM hS (m_recv hK hM (hR.1 Y (by omega) (by omega)) hR.2.1 rfl) rfl hl.1 rfl (Nat.le_of_ble_eq_true rfl) dX8_tell_185 ⟨by decide, by decide⟩ (fun M H locs hp hM hS => ?_)
              obtain ⟨hR, hF1⟩ := hp
              have hF := hF.tr hF1
              refine lv_aload_n hx hb dX8_tell_188 rfl (lv_at hl 1 rfl) ?_
              refine lv_iload_n hx hb dX8_tell_189 rfl (lv_at hl 2 rfl) ?_
              refine lv_bipush (v := nI 13) hx hb dX8_tell_190 (by first | rfl | decide) ?_
              refine lv_iconst (v := nI 1) hx hb dX8_tell_192 (by first | rfl | decide) ?_
              refine m_callV (As := [.int (nI i), .int (nI 13), .int (nI 1)]) (rest := []) ⟨hx, hb, hml, hown, ht⟩ (k_X8_add l g A M Y (va_up σ (17 * i + 8) (σ (17 * i + 8) + (n2))) ar ns hR i 13 (nI 1) (by omega)) (cwV 3 ht (gU uw_642 uw_644 uw_13 uw_42 uw_645) rfl rfl rfl (by decide +kernel) ⟨by decide, by decide⟩) hK hM hS (m_recv hK hM (hR.1 Y (by omega) (by omega)) hR.2.1 rfl) rfl hl.1 rfl (Nat.le_of_ble_eq_true rfl) dX8_tell_193 ⟨by decide, by decide⟩ (fun M H locs hp hM hS => ?_)
              obtain ⟨hR, hF1⟩ := hp
              have hF := hF.tr hF1
              refine lv_aload_n hx hb dX8_tell_196 rfl (lv_at hl 1 rfl) ?_
              refine rm_getS hx hb ht ui_X8 hown hK hM hR (ht _ uw_594) dX8_tell_197 ?_
              refine lv_bipush (v := nI 17) hx hb dX8_tell_200 (by first | rfl | decide) ?_
              refine lv_iload_n hx hb dX8_tell_202 rfl (lv_at hl 2 rfl) ?_
              refine lv_imul hx hb dX8_tell_203 ?_
              rw [pk_mul (17) (i)]
              refine lv_bipush (v := nI 9) hx hb dX8_tell_204 (by first | rfl | decide) ?_
              refine lv_iadd hx hb dX8_tell_206 ?_
              rw [nI_add ((17 * i)) (9)]
              refine lv_iload_n hx hb dX8_tell_207 rfl (lv_at hl 4 rfl) ?_
              refine rm_sast hx hb hK hM hS hR hF (i := ((17 * i) + 9)) (by omega) dX8_tell_208 (fun M H locs hM hR hF hS => ?_)
              refine lv_aload_n hx hb dX8_tell_209 rfl (lv_at hl 1 rfl) ?_
              refine rm_getS hx hb ht ui_X8 hown hK hM hR (ht _ uw_594) dX8_tell_210 ?_
              refine lv_bipush (v := nI 17) hx hb dX8_tell_213 (by first | rfl | decide) ?_
              refine lv_iload_n hx hb dX8_tell_215 rfl (lv_at hl 2 rfl) ?_
              refine lv_imul hx hb dX8_tell_216 ?_
              rw [pk_mul (17) (i)]
              refine lv_bipush (v := nI 10) hx hb dX8_tell_217 (by first | rfl | decide) ?_
              refine lv_iadd hx hb dX8_tell_219 ?_
              rw [nI_add ((17 * i)) (10)]
              refine lv_iload_n hx hb dX8_tell_220 rfl (lv_at hl 3 rfl) ?_
              refine rm_sast hx hb hK hM hS hR hF (i := ((17 * i) + 10)) (by omega) dX8_tell_221 (fun M H locs hM hR hF hS => ?_)
              refine lv_aload_n hx hb dX8_tell_222 rfl (lv_at hl 1 rfl) ?_
              refine rm_getS hx hb ht ui_X8 hown hK hM hR (ht _ uw_594) dX8_tell_223 ?_
              refine lv_bipush (v := nI 17) hx hb dX8_tell_226 (by first | rfl | decide) ?_
              refine lv_iload_n hx hb dX8_tell_228 rfl (lv_at hl 2 rfl) ?_
              refine lv_imul hx hb dX8_tell_229 ?_
              rw [pk_mul (17) (i)]
              refine lv_bipush (v := nI 11) hx hb dX8_tell_230 (by first | rfl | decide) ?_
              refine lv_iadd hx hb dX8_tell_232 ?_
              rw [nI_add ((17 * i)) (11)]
              refine lv_iload hx hb dX8_tell_233 (lv_at hl 5 rfl) ?_
              refine rm_sast hx hb hK hM hS hR hF (i := ((17 * i) + 11)) (by omega) dX8_tell_235 (fun M H locs hM hR hF hS => ?_)
              refine lv_aload_n hx hb dX8_tell_236 rfl (lv_at hl 1 rfl) ?_
              refine rm_getS hx hb ht ui_X8 hown hK hM hR (ht _ uw_594) dX8_tell_237 ?_
              refine lv_bipush (v := nI 17) hx hb dX8_tell_240 (by first | rfl | decide) ?_
              refine lv_iload_n hx hb dX8_tell_242 rfl (lv_at hl 2 rfl) ?_
              refine lv_imul hx hb dX8_tell_243 ?_
              rw [pk_mul (17) (i)]
              refine lv_bipush (v := nI 12) hx hb dX8_tell_244 (by first | rfl | decide) ?_
              refine lv_iadd hx hb dX8_tell_246 ?_
              rw [nI_add ((17 * i)) (12)]
              refine lv_iload hx hb dX8_tell_247 (lv_at hl 6 rfl) ?_
              refine rm_sast hx hb hK hM hS hR hF (i := ((17 * i) + 12)) (by omega) dX8_tell_249 (fun M H locs hM hR hF hS => ?_)
              subst hQ
              exact m_vret hx hb hr hlk hK hM hS dX8_tell_250 (⟨hR.eqv (tel_T (by first | exact tel_take1 c_8 c_28 | exact tel_take2 c_8 c_39 | exact tel_take3 c_8 c_49) (show tel3 σ i x c9 = n2 from (if_neg c_101).trans e_n2.symm)) rfl rfl, hF⟩)
            · refine lv_iload hx hb dX8_tell_104 (lv_at hl 6 rfl) ?_
              refine lv_aload_n hx hb dX8_tell_106 rfl (lv_at hl 1 rfl) ?_
              refine lv_iload_n hx hb dX8_tell_107 rfl (lv_at hl 2 rfl) ?_
              refine lv_bipush (v := nI 12) hx hb dX8_tell_108 (by first | rfl | decide) ?_
              refine m_callRI (val := σ (17 * i + 12)) (As := [.int (nI i), .int (nI 12)]) (rest := [.int (c9)]) ⟨hx, hb, hml, hown, ht⟩ (k_X8_of l g A M Y σ ar ns hR i 12 (by omega)) (cwV 2 ht (gU uw_650 uw_652 uw_15 uw_42 uw_653) rfl rfl rfl (by decide +kernel) ⟨by decide, by decide⟩) hK hM hS (m_recv hK hM (hR.1 Y (by omega) (by omega)) hR.2.1 rfl) rfl hl.1 rfl (Nat.le_of_ble_eq_true rfl) dX8_tell_110 ⟨by decide, by decide⟩ (fun H locs hM hS => ?_)
              refine lv_isub hx hb dX8_tell_113 ?_
              refine lv_aload_n hx hb dX8_tell_114 rfl (lv_at hl 1 rfl) ?_
              refine lv_iload_n hx hb dX8_tell_115 rfl (lv_at hl 2 rfl) ?_
              refine lv_iconst (v := nI 0) hx hb dX8_tell_116 (by first | rfl | decide) ?_
              refine m_callRI (val := σ (17 * i + 0)) (As := [.int (nI i), .int (nI 0)]) (rest := [.int ((c9) - (σ (17 * i + 12)))]) ⟨hx, hb, hml, hown, ht⟩ (k_X8_of l g A M Y σ ar ns hR i 0 (by omega)) (cwV 2 ht (gU uw_650 uw_652 uw_15 uw_42 uw_653) rfl rfl rfl (by decide +kernel) ⟨by decide, by decide⟩) hK hM hS (m_recv hK hM (hR.1 Y (by omega) (by omega)) hR.2.1 rfl) rfl hl.1 rfl (Nat.le_of_ble_eq_true rfl) dX8_tell_117 ⟨by decide, by decide⟩ (fun H locs hM hS => ?_)
              refine lv_imul hx hb dX8_tell_120 ?_
              refine lv_aload_n hx hb dX8_tell_121 rfl (lv_at hl 1 rfl) ?_
              refine lv_iconst (v := nI 0) hx hb dX8_tell_122 (by first | rfl | decide) ?_
              refine lv_iconst (v := nI 0) hx hb dX8_tell_123 (by first | rfl | decide) ?_
              refine m_callRI (val := σ (17 * 0 + 0)) (As := [.int (nI 0), .int (nI 0)]) (rest := [.int (((c9) - (σ (17 * i + 12))) * (σ (17 * i + 0)))]) ⟨hx, hb, hml, hown, ht⟩ (k_X8_of l g A M Y σ ar ns hR 0 0 (by omega)) (cwV 2 ht (gU uw_650 uw_652 uw_15 uw_42 uw_653) rfl rfl rfl (by decide +kernel) ⟨by decide, by decide⟩) hK hM hS (m_recv hK hM (hR.1 Y (by omega) (by omega)) hR.2.1 rfl) rfl hl.1 rfl (Nat.le_of_ble_eq_true rfl) dX8_tell_124 ⟨by decide, by decide⟩ (fun H locs hM hS => ?_)
              refine lv_idiv hx hb dX8_tell_127 (hm0) ?_
              refine lv_aload_n hx hb dX8_tell_128 rfl (lv_at hl 1 rfl) ?_
              refine lv_iload_n hx hb dX8_tell_129 rfl (lv_at hl 2 rfl) ?_
              refine lv_iconst (v := nI 1) hx hb dX8_tell_130 (by first | rfl | decide) ?_
              refine m_callRI (val := σ (17 * i + 1)) (As := [.int (nI i), .int (nI 1)]) (rest := [.int ((((c9) - (σ (17 * i + 12))) * (σ (17 * i + 0))) / (σ (17 * 0 + 0)))]) ⟨hx, hb, hml, hown, ht⟩ (k_X8_of l g A M Y σ ar ns hR i 1 (by omega)) (cwV 2 ht (gU uw_650 uw_652 uw_15 uw_42 uw_653) rfl rfl rfl (by decide +kernel) ⟨by decide, by decide⟩) hK hM hS (m_recv hK hM (hR.1 Y (by omega) (by omega)) hR.2.1 rfl) rfl hl.1 rfl (Nat.le_of_ble_eq_true rfl) dX8_tell_131 ⟨by decide, by decide⟩ (fun H locs hM hS => ?_)
              refine lv_idiv hx hb dX8_tell_134 (hcu) ?_
              refine lv_topi (fun ee e_ee => ?_)
              refine lv_istore (lv' := [(7, .int (ee)), (6, .int (n2)), (0, .ref (Y)), (1, .int (nI i)), (2, .int (x)), (3, .int (h)), (4, .int (t)), (5, .int (c9))]) hx hb dX8_tell_135 hl (by decide) rfl (fun ls hl => ?_)
              have ee9 : ee = telE σ i c9 := e_ee
              have loop_137 : ∀ (z_137 : Nat) (j : Nat) (y9 : Int32) (H : Heap) (locs : List Loc) (ls : Array Slot), rouK W0 ((telE σ i c9).toInt - (tel2 σ i x).toInt) - j < z_137 → j ≤ rouK W0 ((telE σ i c9).toInt - (tel2 σ i x).toInt) → y9 = n2 + σ 102 * nI j → HD g A M H → va_S A s.heap H locs → lv_has ls 8 [(7, .int (ee)), (6, .int (y9)), (0, .ref (Y)), (1, .int (nI i)), (2, .int (x)), (3, .int (h)), (4, .int (t)), (5, .int (c9))] → W p l e (rmD 1) s m aa below meth c H locs 0 0 Q (F0 m 137 ls []) := by
                intro z_137
                induction z_137 with
                | zero => intro j y9 H locs ls hz hj hyj; exact absurd hz (Nat.not_lt_zero _)
                | succ z_137 ih_137 =>
                intro j y9 H locs ls hz hj hyj hM  hS hl
                have ee9 : ee = telE σ i c9 := e_ee
                refine lv_iload hx hb dX8_tell_137 (lv_at hl 1 rfl) ?_
                refine lv_aload_n hx hb dX8_tell_139 rfl (lv_at hl 2 rfl) ?_
                refine rm_getS hx hb ht ui_X8 hown hK hM hR (ht _ uw_594) dX8_tell_140 ?_
                refine lv_bipush (v := nI 102) hx hb dX8_tell_143 (by first | rfl | decide) ?_
                refine rm_sald hx hb hK hM hR (i := 102) (by omega) dX8_tell_145 ?_
                refine lv_iadd hx hb dX8_tell_146 ?_
                refine lv_iload hx hb dX8_tell_147 (lv_at hl 0 rfl) ?_
                refine lv_isub hx hb dX8_tell_149 ?_
                refine m_callRSI (val := sizC (((y9) + (σ 102)) - (ee))) (As := [.int (((y9) + (σ 102)) - (ee))]) (rest := []) ⟨hx, hb, hml, hown, ht⟩ (k_X8_size l g A M (((y9) + (σ 102)) - (ee))) (cwS 1 ht (gUS uw_687 uw_688 uw_42 uw_689) rfl rfl rfl (by decide +kernel) ⟨by decide, by decide⟩) hK hM hS rfl hl.1 rfl (Nat.le_of_ble_eq_true rfl) dX8_tell_150 ⟨by decide, by decide⟩ (fun H locs hM hS => ?_)
                refine lv_iload hx hb dX8_tell_153 (lv_at hl 1 rfl) ?_
                refine lv_iload hx hb dX8_tell_155 (lv_at hl 0 rfl) ?_
                refine lv_isub hx hb dX8_tell_157 ?_
                refine m_callRSI (val := sizC ((y9) - (ee))) (As := [.int ((y9) - (ee))]) (rest := [.int (sizC (((y9) + (σ 102)) - (ee)))]) ⟨hx, hb, hml, hown, ht⟩ (k_X8_size l g A M ((y9) - (ee))) (cwS 1 ht (gUS uw_687 uw_688 uw_42 uw_689) rfl rfl rfl (by decide +kernel) ⟨by decide, by decide⟩) hK hM hS rfl hl.1 rfl (Nat.le_of_ble_eq_true rfl) dX8_tell_158 ⟨by decide, by decide⟩ (fun H locs hM hS => ?_)
                refine lv_icmp_ge (tgt := 179) hx hb dX8_tell_161 (by decide) (fun c_161 => ?_) (fun c_161 => ?_)
                · have hx9 : tel3 σ i x c9 = y9 := by
                    have hj9 : ¬ j < rouK W0 ((telE σ i c9).toInt - (tel2 σ i x).toInt) := fun z => (Int32.not_lt.mpr c_161) (by have z2 := (rou_step hW4 hW60 ha1 ha2 he1 he2 hj).mpr z; rw [hyj, hW, e_n2, ee9]; exact z2)
                    have hjK : j = rouK W0 ((telE σ i c9).toInt - (tel2 σ i x).toInt) := by omega
                    unfold tel3
                    rw [if_pos (show σ 103 = 1 from c_101), hW, rou_eq hW4 hW60 ha1 ha2 he1 he2, ← hjK, hyj, hW, e_n2]
                  refine lv_aload_n hx hb dX8_tell_179 rfl (lv_at hl 2 rfl) ?_
                  refine lv_iload_n hx hb dX8_tell_180 rfl (lv_at hl 3 rfl) ?_
                  refine lv_bipush (v := nI 8) hx hb dX8_tell_181 (by first | rfl | decide) ?_
                  refine lv_iload hx hb dX8_tell_183 (lv_at hl 1 rfl) ?_
                  refine m_callV (As := [.int (nI i), .int (nI 8), .int (y9)]) (rest := []) ⟨hx, hb, hml, hown, ht⟩ (k_X8_add l g A M Y σ ar ns hR i 8 (y9) (by omega)) (cwV 3 ht (gU uw_642 uw_644 uw_13 uw_42 uw_645) rfl rfl rfl (by decide +kernel) ⟨by decide, by decide⟩) hK hM hS (m_recv hK hM (hR.1 Y (by omega) (by omega)) hR.2.1 rfl) rfl hl.1 rfl (Nat.le_of_ble_eq_true rfl) dX8_tell_185 ⟨by decide, by decide⟩ (fun M H locs hp hM hS => ?_)
                  obtain ⟨hR, hF1⟩ := hp
                  have hF := hF.tr hF1
                  refine lv_aload_n hx hb dX8_tell_188 rfl (lv_at hl 2 rfl) ?_
                  refine lv_iload_n hx hb dX8_tell_189 rfl (lv_at hl 3 rfl) ?_
                  refine lv_bipush (v := nI 13) hx hb dX8_tell_190 (by first | rfl | decide) ?_
                  refine lv_iconst (v := nI 1) hx hb dX8_tell_192 (by first | rfl | decide) ?_
                  refine m_callV (As := [.int (nI i), .int (nI 13), .int (nI 1)]) (rest := []) ⟨hx, hb, hml, hown, ht⟩ (k_X8_add l g A M Y (va_up σ (17 * i + 8) (σ (17 * i + 8) + (y9))) ar ns hR i 13 (nI 1) (by omega)) (cwV 3 ht (gU uw_642 uw_644 uw_13 uw_42 uw_645) rfl rfl rfl (by decide +kernel) ⟨by decide, by decide⟩) hK hM hS (m_recv hK hM (hR.1 Y (by omega) (by omega)) hR.2.1 rfl) rfl hl.1 rfl (Nat.le_of_ble_eq_true rfl) dX8_tell_193 ⟨by decide, by decide⟩ (fun M H locs hp hM hS => ?_)
                  obtain ⟨hR, hF1⟩ := hp
                  have hF := hF.tr hF1
                  refine lv_aload_n hx hb dX8_tell_196 rfl (lv_at hl 2 rfl) ?_
                  refine rm_getS hx hb ht ui_X8 hown hK hM hR (ht _ uw_594) dX8_tell_197 ?_
                  refine lv_bipush (v := nI 17) hx hb dX8_tell_200 (by first | rfl | decide) ?_
                  refine lv_iload_n hx hb dX8_tell_202 rfl (lv_at hl 3 rfl) ?_
                  refine lv_imul hx hb dX8_tell_203 ?_
                  rw [pk_mul (17) (i)]
                  refine lv_bipush (v := nI 9) hx hb dX8_tell_204 (by first | rfl | decide) ?_
                  refine lv_iadd hx hb dX8_tell_206 ?_
                  rw [nI_add ((17 * i)) (9)]
                  refine lv_iload_n hx hb dX8_tell_207 rfl (lv_at hl 5 rfl) ?_
                  refine rm_sast hx hb hK hM hS hR hF (i := ((17 * i) + 9)) (by omega) dX8_tell_208 (fun M H locs hM hR hF hS => ?_)
                  refine lv_aload_n hx hb dX8_tell_209 rfl (lv_at hl 2 rfl) ?_
                  refine rm_getS hx hb ht ui_X8 hown hK hM hR (ht _ uw_594) dX8_tell_210 ?_
                  refine lv_bipush (v := nI 17) hx hb dX8_tell_213 (by first | rfl | decide) ?_
                  refine lv_iload_n hx hb dX8_tell_215 rfl (lv_at hl 3 rfl) ?_
                  refine lv_imul hx hb dX8_tell_216 ?_
                  rw [pk_mul (17) (i)]
                  refine lv_bipush (v := nI 10) hx hb dX8_tell_217 (by first | rfl | decide) ?_
                  refine lv_iadd hx hb dX8_tell_219 ?_
                  rw [nI_add ((17 * i)) (10)]
                  refine lv_iload_n hx hb dX8_tell_220 rfl (lv_at hl 4 rfl) ?_
                  refine rm_sast hx hb hK hM hS hR hF (i := ((17 * i) + 10)) (by omega) dX8_tell_221 (fun M H locs hM hR hF hS => ?_)
                  refine lv_aload_n hx hb dX8_tell_222 rfl (lv_at hl 2 rfl) ?_
                  refine rm_getS hx hb ht ui_X8 hown hK hM hR (ht _ uw_594) dX8_tell_223 ?_
                  refine lv_bipush (v := nI 17) hx hb dX8_tell_226 (by first | rfl | decide) ?_
                  refine lv_iload_n hx hb dX8_tell_228 rfl (lv_at hl 3 rfl) ?_
                  refine lv_imul hx hb dX8_tell_229 ?_
                  rw [pk_mul (17) (i)]
                  refine lv_bipush (v := nI 11) hx hb dX8_tell_230 (by first | rfl | decide) ?_
                  refine lv_iadd hx hb dX8_tell_232 ?_
                  rw [nI_add ((17 * i)) (11)]
                  refine lv_iload hx hb dX8_tell_233 (lv_at hl 6 rfl) ?_
                  refine rm_sast hx hb hK hM hS hR hF (i := ((17 * i) + 11)) (by omega) dX8_tell_235 (fun M H locs hM hR hF hS => ?_)
                  refine lv_aload_n hx hb dX8_tell_236 rfl (lv_at hl 2 rfl) ?_
                  refine rm_getS hx hb ht ui_X8 hown hK hM hR (ht _ uw_594) dX8_tell_237 ?_
                  refine lv_bipush (v := nI 17) hx hb dX8_tell_240 (by first | rfl | decide) ?_
                  refine lv_iload_n hx hb dX8_tell_242 rfl (lv_at hl 3 rfl) ?_
                  refine lv_imul hx hb dX8_tell_243 ?_
                  rw [pk_mul (17) (i)]
                  refine lv_bipush (v := nI 12) hx hb dX8_tell_244 (by first | rfl | decide) ?_
                  refine lv_iadd hx hb dX8_tell_246 ?_
                  rw [nI_add ((17 * i)) (12)]
                  refine lv_iload hx hb dX8_tell_247 (lv_at hl 7 rfl) ?_
                  refine rm_sast hx hb hK hM hS hR hF (i := ((17 * i) + 12)) (by omega) dX8_tell_249 (fun M H locs hM hR hF hS => ?_)
                  subst hQ
                  exact m_vret hx hb hr hlk hK hM hS dX8_tell_250 (⟨hR.eqv (tel_T (by first | exact tel_take1 c_8 c_28 | exact tel_take2 c_8 c_39 | exact tel_take3 c_8 c_49) hx9) rfl rfl, hF⟩)
                · have hj9 := (rou_step hW4 hW60 ha1 ha2 he1 he2 hj).mp (by have z := Int32.not_le.mp c_161; rw [hyj, hW, e_n2, ee9] at z; exact z)
                  refine lv_iload hx hb dX8_tell_164 (lv_at hl 1 rfl) ?_
                  refine lv_aload_n hx hb dX8_tell_166 rfl (lv_at hl 2 rfl) ?_
                  refine rm_getS hx hb ht ui_X8 hown hK hM hR (ht _ uw_594) dX8_tell_167 ?_
                  refine lv_bipush (v := nI 102) hx hb dX8_tell_170 (by first | rfl | decide) ?_
                  refine rm_sald hx hb hK hM hR (i := 102) (by omega) dX8_tell_172 ?_
                  refine lv_iadd hx hb dX8_tell_173 ?_
                  refine lv_istore (lv' := [(6, .int ((y9) + (σ 102))), (7, .int (ee)), (0, .ref (Y)), (1, .int (nI i)), (2, .int (x)), (3, .int (h)), (4, .int (t)), (5, .int (c9))]) hx hb dX8_tell_174 hl (by decide) rfl (fun ls hl => ?_)
                  refine lv_goto (tgt := 137) hx hb dX8_tell_176 (by decide) ?_
                  have ee9 : ee = telE σ i c9 := e_ee
                  exact ih_137 (j + 1) (y9 + σ 102) _ _ _ (by omega) (by omega) (by rw [hyj, hW]; exact rou_next j) hM hS (lv_sub hl [1, 0, 2, 3, 4, 5, 6, 7] rfl)
              exact loop_137 _ 0 n2 _ _ _ (Nat.lt_succ_self _) (Nat.zero_le _) (by rw [show nI 0 = 0 from rfl, Int32.mul_zero, Int32.add_zero]) hM hS (lv_sub hl [0, 1, 2, 3, 4, 5, 6, 7] rfl)
          · refine lv_aload_n hx hb dX8_tell_79 rfl (lv_at hl 1 rfl) ?_
            refine rm_getS hx hb ht ui_X8 hown hK hM hR (ht _ uw_594) dX8_tell_80 ?_
            refine lv_bipush (v := nI 102) hx hb dX8_tell_83 (by first | rfl | decide) ?_
            refine rm_sald hx hb hK hM hR (i := 102) (by omega) dX8_tell_85 ?_
            refine lv_goto (tgt := 90) hx hb dX8_tell_86 (by decide) ?_
            refine lv_iadd hx hb dX8_tell_90 ?_
            refine lv_topi (fun n2 e_n2 => ?_)
            refine lv_istore (lv' := [(6, .int (n2)), (0, .ref (Y)), (1, .int (nI i)), (2, .int (x)), (3, .int (h)), (4, .int (t)), (5, .int (c9))]) hx hb dX8_tell_91 hl (by decide) rfl (fun ls hl => ?_)
            have e_n2 : n2 = tel2 σ i x := e_n2.trans (by rw [e_n1]; exact (if_pos (by rw [← e_n1]; exact Int32.not_le.mp c_76)).symm)
            refine lv_aload_n hx hb dX8_tell_93 rfl (lv_at hl 1 rfl) ?_
            refine rm_getS hx hb ht ui_X8 hown hK hM hR (ht _ uw_594) dX8_tell_94 ?_
            refine lv_bipush (v := nI 103) hx hb dX8_tell_97 (by first | rfl | decide) ?_
            refine rm_sald hx hb hK hM hR (i := 103) (by omega) dX8_tell_99 ?_
            refine lv_iconst (v := nI 1) hx hb dX8_tell_100 (by first | rfl | decide) ?_
            refine lv_icmp_ne (tgt := 179) hx hb dX8_tell_101 (by decide) (fun c_101 => ?_) (fun c_101 => ?_)
            · refine lv_aload_n hx hb dX8_tell_179 rfl (lv_at hl 1 rfl) ?_
              refine lv_iload_n hx hb dX8_tell_180 rfl (lv_at hl 2 rfl) ?_
              refine lv_bipush (v := nI 8) hx hb dX8_tell_181 (by first | rfl | decide) ?_
              refine lv_iload hx hb dX8_tell_183 (lv_at hl 0 rfl) ?_
              refine m_callV (As := [.int (nI i), .int (nI 8), .int (n2)]) (rest := []) ⟨hx, hb, hml, hown, ht⟩ (k_X8_add l g A M Y σ ar ns hR i 8 (n2) (by omega)) (cwV 3 ht (gU uw_642 uw_644 uw_13 uw_42 uw_645) rfl rfl rfl (by decide +kernel) ⟨by decide, by decide⟩) hK hM hS (m_recv hK hM (hR.1 Y (by omega) (by omega)) hR.2.1 rfl) rfl hl.1 rfl (Nat.le_of_ble_eq_true rfl) dX8_tell_185 ⟨by decide, by decide⟩ (fun M H locs hp hM hS => ?_)
              obtain ⟨hR, hF1⟩ := hp
              have hF := hF.tr hF1
              refine lv_aload_n hx hb dX8_tell_188 rfl (lv_at hl 1 rfl) ?_
              refine lv_iload_n hx hb dX8_tell_189 rfl (lv_at hl 2 rfl) ?_
              refine lv_bipush (v := nI 13) hx hb dX8_tell_190 (by first | rfl | decide) ?_
              refine lv_iconst (v := nI 1) hx hb dX8_tell_192 (by first | rfl | decide) ?_
              refine m_callV (As := [.int (nI i), .int (nI 13), .int (nI 1)]) (rest := []) ⟨hx, hb, hml, hown, ht⟩ (k_X8_add l g A M Y (va_up σ (17 * i + 8) (σ (17 * i + 8) + (n2))) ar ns hR i 13 (nI 1) (by omega)) (cwV 3 ht (gU uw_642 uw_644 uw_13 uw_42 uw_645) rfl rfl rfl (by decide +kernel) ⟨by decide, by decide⟩) hK hM hS (m_recv hK hM (hR.1 Y (by omega) (by omega)) hR.2.1 rfl) rfl hl.1 rfl (Nat.le_of_ble_eq_true rfl) dX8_tell_193 ⟨by decide, by decide⟩ (fun M H locs hp hM hS => ?_)
              obtain ⟨hR, hF1⟩ := hp
              have hF := hF.tr hF1
              refine lv_aload_n hx hb dX8_tell_196 rfl (lv_at hl 1 rfl) ?_
              refine rm_getS hx hb ht ui_X8 hown hK hM hR (ht _ uw_594) dX8_tell_197 ?_
              refine lv_bipush (v := nI 17) hx hb dX8_tell_200 (by first | rfl | decide) ?_
              refine lv_iload_n hx hb dX8_tell_202 rfl (lv_at hl 2 rfl) ?_
              refine lv_imul hx hb dX8_tell_203 ?_
              rw [pk_mul (17) (i)]
              refine lv_bipush (v := nI 9) hx hb dX8_tell_204 (by first | rfl | decide) ?_
              refine lv_iadd hx hb dX8_tell_206 ?_
              rw [nI_add ((17 * i)) (9)]
              refine lv_iload_n hx hb dX8_tell_207 rfl (lv_at hl 4 rfl) ?_
              refine rm_sast hx hb hK hM hS hR hF (i := ((17 * i) + 9)) (by omega) dX8_tell_208 (fun M H locs hM hR hF hS => ?_)
              refine lv_aload_n hx hb dX8_tell_209 rfl (lv_at hl 1 rfl) ?_
              refine rm_getS hx hb ht ui_X8 hown hK hM hR (ht _ uw_594) dX8_tell_210 ?_
              refine lv_bipush (v := nI 17) hx hb dX8_tell_213 (by first | rfl | decide) ?_
              refine lv_iload_n hx hb dX8_tell_215 rfl (lv_at hl 2 rfl) ?_
              refine lv_imul hx hb dX8_tell_216 ?_
              rw [pk_mul (17) (i)]
              refine lv_bipush (v := nI 10) hx hb dX8_tell_217 (by first | rfl | decide) ?_
              refine lv_iadd hx hb dX8_tell_219 ?_
              rw [nI_add ((17 * i)) (10)]
              refine lv_iload_n hx hb dX8_tell_220 rfl (lv_at hl 3 rfl) ?_
              refine rm_sast hx hb hK hM hS hR hF (i := ((17 * i) + 10)) (by omega) dX8_tell_221 (fun M H locs hM hR hF hS => ?_)
              refine lv_aload_n hx hb dX8_tell_222 rfl (lv_at hl 1 rfl) ?_
              refine rm_getS hx hb ht ui_X8 hown hK hM hR (ht _ uw_594) dX8_tell_223 ?_
              refine lv_bipush (v := nI 17) hx hb dX8_tell_226 (by first | rfl | decide) ?_
              refine lv_iload_n hx hb dX8_tell_228 rfl (lv_at hl 2 rfl) ?_
              refine lv_imul hx hb dX8_tell_229 ?_
              rw [pk_mul (17) (i)]
              refine lv_bipush (v := nI 11) hx hb dX8_tell_230 (by first | rfl | decide) ?_
              refine lv_iadd hx hb dX8_tell_232 ?_
              rw [nI_add ((17 * i)) (11)]
              refine lv_iload hx hb dX8_tell_233 (lv_at hl 5 rfl) ?_
              refine rm_sast hx hb hK hM hS hR hF (i := ((17 * i) + 11)) (by omega) dX8_tell_235 (fun M H locs hM hR hF hS => ?_)
              refine lv_aload_n hx hb dX8_tell_236 rfl (lv_at hl 1 rfl) ?_
              refine rm_getS hx hb ht ui_X8 hown hK hM hR (ht _ uw_594) dX8_tell_237 ?_
              refine lv_bipush (v := nI 17) hx hb dX8_tell_240 (by first | rfl | decide) ?_
              refine lv_iload_n hx hb dX8_tell_242 rfl (lv_at hl 2 rfl) ?_
              refine lv_imul hx hb dX8_tell_243 ?_
              rw [pk_mul (17) (i)]
              refine lv_bipush (v := nI 12) hx hb dX8_tell_244 (by first | rfl | decide) ?_
              refine lv_iadd hx hb dX8_tell_246 ?_
              rw [nI_add ((17 * i)) (12)]
              refine lv_iload hx hb dX8_tell_247 (lv_at hl 6 rfl) ?_
              refine rm_sast hx hb hK hM hS hR hF (i := ((17 * i) + 12)) (by omega) dX8_tell_249 (fun M H locs hM hR hF hS => ?_)
              subst hQ
              exact m_vret hx hb hr hlk hK hM hS dX8_tell_250 (⟨hR.eqv (tel_T (by first | exact tel_take1 c_8 c_28 | exact tel_take2 c_8 c_39 | exact tel_take3 c_8 c_49) (show tel3 σ i x c9 = n2 from (if_neg c_101).trans e_n2.symm)) rfl rfl, hF⟩)
            · refine lv_iload hx hb dX8_tell_104 (lv_at hl 6 rfl) ?_
              refine lv_aload_n hx hb dX8_tell_106 rfl (lv_at hl 1 rfl) ?_
              refine lv_iload_n hx hb dX8_tell_107 rfl (lv_at hl 2 rfl) ?_
              refine lv_bipush (v := nI 12) hx hb dX8_tell_108 (by first | rfl | decide) ?_
              refine m_callRI (val := σ (17 * i + 12)) (As := [.int (nI i), .int (nI 12)]) (rest := [.int (c9)]) ⟨hx, hb, hml, hown, ht⟩ (k_X8_of l g A M Y σ ar ns hR i 12 (by omega)) (cwV 2 ht (gU uw_650 uw_652 uw_15 uw_42 uw_653) rfl rfl rfl (by decide +kernel) ⟨by decide, by decide⟩) hK hM hS (m_recv hK hM (hR.1 Y (by omega) (by omega)) hR.2.1 rfl) rfl hl.1 rfl (Nat.le_of_ble_eq_true rfl) dX8_tell_110 ⟨by decide, by decide⟩ (fun H locs hM hS => ?_)
              refine lv_isub hx hb dX8_tell_113 ?_
              refine lv_aload_n hx hb dX8_tell_114 rfl (lv_at hl 1 rfl) ?_
              refine lv_iload_n hx hb dX8_tell_115 rfl (lv_at hl 2 rfl) ?_
              refine lv_iconst (v := nI 0) hx hb dX8_tell_116 (by first | rfl | decide) ?_
              refine m_callRI (val := σ (17 * i + 0)) (As := [.int (nI i), .int (nI 0)]) (rest := [.int ((c9) - (σ (17 * i + 12)))]) ⟨hx, hb, hml, hown, ht⟩ (k_X8_of l g A M Y σ ar ns hR i 0 (by omega)) (cwV 2 ht (gU uw_650 uw_652 uw_15 uw_42 uw_653) rfl rfl rfl (by decide +kernel) ⟨by decide, by decide⟩) hK hM hS (m_recv hK hM (hR.1 Y (by omega) (by omega)) hR.2.1 rfl) rfl hl.1 rfl (Nat.le_of_ble_eq_true rfl) dX8_tell_117 ⟨by decide, by decide⟩ (fun H locs hM hS => ?_)
              refine lv_imul hx hb dX8_tell_120 ?_
              refine lv_aload_n hx hb dX8_tell_121 rfl (lv_at hl 1 rfl) ?_
              refine lv_iconst (v := nI 0) hx hb dX8_tell_122 (by first | rfl | decide) ?_
              refine lv_iconst (v := nI 0) hx hb dX8_tell_123 (by first | rfl | decide) ?_
              refine m_callRI (val := σ (17 * 0 + 0)) (As := [.int (nI 0), .int (nI 0)]) (rest := [.int (((c9) - (σ (17 * i + 12))) * (σ (17 * i + 0)))]) ⟨hx, hb, hml, hown, ht⟩ (k_X8_of l g A M Y σ ar ns hR 0 0 (by omega)) (cwV 2 ht (gU uw_650 uw_652 uw_15 uw_42 uw_653) rfl rfl rfl (by decide +kernel) ⟨by decide, by decide⟩) hK hM hS (m_recv hK hM (hR.1 Y (by omega) (by omega)) hR.2.1 rfl) rfl hl.1 rfl (Nat.le_of_ble_eq_true rfl) dX8_tell_124 ⟨by decide, by decide⟩ (fun H locs hM hS => ?_)
              refine lv_idiv hx hb dX8_tell_127 (hm0) ?_
              refine lv_aload_n hx hb dX8_tell_128 rfl (lv_at hl 1 rfl) ?_
              refine lv_iload_n hx hb dX8_tell_129 rfl (lv_at hl 2 rfl) ?_
              refine lv_iconst (v := nI 1) hx hb dX8_tell_130 (by first | rfl | decide) ?_
              refine m_callRI (val := σ (17 * i + 1)) (As := [.int (nI i), .int (nI 1)]) (rest := [.int ((((c9) - (σ (17 * i + 12))) * (σ (17 * i + 0))) / (σ (17 * 0 + 0)))]) ⟨hx, hb, hml, hown, ht⟩ (k_X8_of l g A M Y σ ar ns hR i 1 (by omega)) (cwV 2 ht (gU uw_650 uw_652 uw_15 uw_42 uw_653) rfl rfl rfl (by decide +kernel) ⟨by decide, by decide⟩) hK hM hS (m_recv hK hM (hR.1 Y (by omega) (by omega)) hR.2.1 rfl) rfl hl.1 rfl (Nat.le_of_ble_eq_true rfl) dX8_tell_131 ⟨by decide, by decide⟩ (fun H locs hM hS => ?_)
              refine lv_idiv hx hb dX8_tell_134 (hcu) ?_
              refine lv_topi (fun ee e_ee => ?_)
              refine lv_istore (lv' := [(7, .int (ee)), (6, .int (n2)), (0, .ref (Y)), (1, .int (nI i)), (2, .int (x)), (3, .int (h)), (4, .int (t)), (5, .int (c9))]) hx hb dX8_tell_135 hl (by decide) rfl (fun ls hl => ?_)
              have ee9 : ee = telE σ i c9 := e_ee
              have loop_137 : ∀ (z_137 : Nat) (j : Nat) (y9 : Int32) (H : Heap) (locs : List Loc) (ls : Array Slot), rouK W0 ((telE σ i c9).toInt - (tel2 σ i x).toInt) - j < z_137 → j ≤ rouK W0 ((telE σ i c9).toInt - (tel2 σ i x).toInt) → y9 = n2 + σ 102 * nI j → HD g A M H → va_S A s.heap H locs → lv_has ls 8 [(7, .int (ee)), (6, .int (y9)), (0, .ref (Y)), (1, .int (nI i)), (2, .int (x)), (3, .int (h)), (4, .int (t)), (5, .int (c9))] → W p l e (rmD 1) s m aa below meth c H locs 0 0 Q (F0 m 137 ls []) := by
                intro z_137
                induction z_137 with
                | zero => intro j y9 H locs ls hz hj hyj; exact absurd hz (Nat.not_lt_zero _)
                | succ z_137 ih_137 =>
                intro j y9 H locs ls hz hj hyj hM  hS hl
                have ee9 : ee = telE σ i c9 := e_ee
                refine lv_iload hx hb dX8_tell_137 (lv_at hl 1 rfl) ?_
                refine lv_aload_n hx hb dX8_tell_139 rfl (lv_at hl 2 rfl) ?_
                refine rm_getS hx hb ht ui_X8 hown hK hM hR (ht _ uw_594) dX8_tell_140 ?_
                refine lv_bipush (v := nI 102) hx hb dX8_tell_143 (by first | rfl | decide) ?_
                refine rm_sald hx hb hK hM hR (i := 102) (by omega) dX8_tell_145 ?_
                refine lv_iadd hx hb dX8_tell_146 ?_
                refine lv_iload hx hb dX8_tell_147 (lv_at hl 0 rfl) ?_
                refine lv_isub hx hb dX8_tell_149 ?_
                refine m_callRSI (val := sizC (((y9) + (σ 102)) - (ee))) (As := [.int (((y9) + (σ 102)) - (ee))]) (rest := []) ⟨hx, hb, hml, hown, ht⟩ (k_X8_size l g A M (((y9) + (σ 102)) - (ee))) (cwS 1 ht (gUS uw_687 uw_688 uw_42 uw_689) rfl rfl rfl (by decide +kernel) ⟨by decide, by decide⟩) hK hM hS rfl hl.1 rfl (Nat.le_of_ble_eq_true rfl) dX8_tell_150 ⟨by decide, by decide⟩ (fun H locs hM hS => ?_)
                refine lv_iload hx hb dX8_tell_153 (lv_at hl 1 rfl) ?_
                refine lv_iload hx hb dX8_tell_155 (lv_at hl 0 rfl) ?_
                refine lv_isub hx hb dX8_tell_157 ?_
                refine m_callRSI (val := sizC ((y9) - (ee))) (As := [.int ((y9) - (ee))]) (rest := [.int (sizC (((y9) + (σ 102)) - (ee)))]) ⟨hx, hb, hml, hown, ht⟩ (k_X8_size l g A M ((y9) - (ee))) (cwS 1 ht (gUS uw_687 uw_688 uw_42 uw_689) rfl rfl rfl (by decide +kernel) ⟨by decide, by decide⟩) hK hM hS rfl hl.1 rfl (Nat.le_of_ble_eq_true rfl) dX8_tell_158 ⟨by decide, by decide⟩ (fun H locs hM hS => ?_)
                refine lv_icmp_ge (tgt := 179) hx hb dX8_tell_161 (by decide) (fun c_161 => ?_) (fun c_161 => ?_)
                · have hx9 : tel3 σ i x c9 = y9 := by
                    have hj9 : ¬ j < rouK W0 ((telE σ i c9).toInt - (tel2 σ i x).toInt) := fun z => (Int32.not_lt.mpr c_161) (by have z2 := (rou_step hW4 hW60 ha1 ha2 he1 he2 hj).mpr z; rw [hyj, hW, e_n2, ee9]; exact z2)
                    have hjK : j = rouK W0 ((telE σ i c9).toInt - (tel2 σ i x).toInt) := by omega
                    unfold tel3
                    rw [if_pos (show σ 103 = 1 from c_101), hW, rou_eq hW4 hW60 ha1 ha2 he1 he2, ← hjK, hyj, hW, e_n2]
                  refine lv_aload_n hx hb dX8_tell_179 rfl (lv_at hl 2 rfl) ?_
                  refine lv_iload_n hx hb dX8_tell_180 rfl (lv_at hl 3 rfl) ?_
                  refine lv_bipush (v := nI 8) hx hb dX8_tell_181 (by first | rfl | decide) ?_
                  refine lv_iload hx hb dX8_tell_183 (lv_at hl 1 rfl) ?_
                  refine m_callV (As := [.int (nI i), .int (nI 8), .int (y9)]) (rest := []) ⟨hx, hb, hml, hown, ht⟩ (k_X8_add l g A M Y σ ar ns hR i 8 (y9) (by omega)) (cwV 3 ht (gU uw_642 uw_644 uw_13 uw_42 uw_645) rfl rfl rfl (by decide +kernel) ⟨by decide, by decide⟩) hK hM hS (m_recv hK hM (hR.1 Y (by omega) (by omega)) hR.2.1 rfl) rfl hl.1 rfl (Nat.le_of_ble_eq_true rfl) dX8_tell_185 ⟨by decide, by decide⟩ (fun M H locs hp hM hS => ?_)
                  obtain ⟨hR, hF1⟩ := hp
                  have hF := hF.tr hF1
                  refine lv_aload_n hx hb dX8_tell_188 rfl (lv_at hl 2 rfl) ?_
                  refine lv_iload_n hx hb dX8_tell_189 rfl (lv_at hl 3 rfl) ?_
                  refine lv_bipush (v := nI 13) hx hb dX8_tell_190 (by first | rfl | decide) ?_
                  refine lv_iconst (v := nI 1) hx hb dX8_tell_192 (by first | rfl | decide) ?_
                  refine m_callV (As := [.int (nI i), .int (nI 13), .int (nI 1)]) (rest := []) ⟨hx, hb, hml, hown, ht⟩ (k_X8_add l g A M Y (va_up σ (17 * i + 8) (σ (17 * i + 8) + (y9))) ar ns hR i 13 (nI 1) (by omega)) (cwV 3 ht (gU uw_642 uw_644 uw_13 uw_42 uw_645) rfl rfl rfl (by decide +kernel) ⟨by decide, by decide⟩) hK hM hS (m_recv hK hM (hR.1 Y (by omega) (by omega)) hR.2.1 rfl) rfl hl.1 rfl (Nat.le_of_ble_eq_true rfl) dX8_tell_193 ⟨by decide, by decide⟩ (fun M H locs hp hM hS => ?_)
                  obtain ⟨hR, hF1⟩ := hp
                  have hF := hF.tr hF1
                  refine lv_aload_n hx hb dX8_tell_196 rfl (lv_at hl 2 rfl) ?_
                  refine rm_getS hx hb ht ui_X8 hown hK hM hR (ht _ uw_594) dX8_tell_197 ?_
                  refine lv_bipush (v := nI 17) hx hb dX8_tell_200 (by first | rfl | decide) ?_
                  refine lv_iload_n hx hb dX8_tell_202 rfl (lv_at hl 3 rfl) ?_
                  refine lv_imul hx hb dX8_tell_203 ?_
                  rw [pk_mul (17) (i)]
                  refine lv_bipush (v := nI 9) hx hb dX8_tell_204 (by first | rfl | decide) ?_
                  refine lv_iadd hx hb dX8_tell_206 ?_
                  rw [nI_add ((17 * i)) (9)]
                  refine lv_iload_n hx hb dX8_tell_207 rfl (lv_at hl 5 rfl) ?_
                  refine rm_sast hx hb hK hM hS hR hF (i := ((17 * i) + 9)) (by omega) dX8_tell_208 (fun M H locs hM hR hF hS => ?_)
                  refine lv_aload_n hx hb dX8_tell_209 rfl (lv_at hl 2 rfl) ?_
                  refine rm_getS hx hb ht ui_X8 hown hK hM hR (ht _ uw_594) dX8_tell_210 ?_
                  refine lv_bipush (v := nI 17) hx hb dX8_tell_213 (by first | rfl | decide) ?_
                  refine lv_iload_n hx hb dX8_tell_215 rfl (lv_at hl 3 rfl) ?_
                  refine lv_imul hx hb dX8_tell_216 ?_
                  rw [pk_mul (17) (i)]
                  refine lv_bipush (v := nI 10) hx hb dX8_tell_217 (by first | rfl | decide) ?_
                  refine lv_iadd hx hb dX8_tell_219 ?_
                  rw [nI_add ((17 * i)) (10)]
                  refine lv_iload_n hx hb dX8_tell_220 rfl (lv_at hl 4 rfl) ?_
                  refine rm_sast hx hb hK hM hS hR hF (i := ((17 * i) + 10)) (by omega) dX8_tell_221 (fun M H locs hM hR hF hS => ?_)
                  refine lv_aload_n hx hb dX8_tell_222 rfl (lv_at hl 2 rfl) ?_
                  refine rm_getS hx hb ht ui_X8 hown hK hM hR (ht _ uw_594) dX8_tell_223 ?_
                  refine lv_bipush (v := nI 17) hx hb dX8_tell_226 (by first | rfl | decide) ?_
                  refine lv_iload_n hx hb dX8_tell_228 rfl (lv_at hl 3 rfl) ?_
                  refine lv_imul hx hb dX8_tell_229 ?_
                  rw [pk_mul (17) (i)]
                  refine lv_bipush (v := nI 11) hx hb dX8_tell_230 (by first | rfl | decide) ?_
                  refine lv_iadd hx hb dX8_tell_232 ?_
                  rw [nI_add ((17 * i)) (11)]
                  refine lv_iload hx hb dX8_tell_233 (lv_at hl 6 rfl) ?_
                  refine rm_sast hx hb hK hM hS hR hF (i := ((17 * i) + 11)) (by omega) dX8_tell_235 (fun M H locs hM hR hF hS => ?_)
                  refine lv_aload_n hx hb dX8_tell_236 rfl (lv_at hl 2 rfl) ?_
                  refine rm_getS hx hb ht ui_X8 hown hK hM hR (ht _ uw_594) dX8_tell_237 ?_
                  refine lv_bipush (v := nI 17) hx hb dX8_tell_240 (by first | rfl | decide) ?_
                  refine lv_iload_n hx hb dX8_tell_242 rfl (lv_at hl 3 rfl) ?_
                  refine lv_imul hx hb dX8_tell_243 ?_
                  rw [pk_mul (17) (i)]
                  refine lv_bipush (v := nI 12) hx hb dX8_tell_244 (by first | rfl | decide) ?_
                  refine lv_iadd hx hb dX8_tell_246 ?_
                  rw [nI_add ((17 * i)) (12)]
                  refine lv_iload hx hb dX8_tell_247 (lv_at hl 7 rfl) ?_
                  refine rm_sast hx hb hK hM hS hR hF (i := ((17 * i) + 12)) (by omega) dX8_tell_249 (fun M H locs hM hR hF hS => ?_)
                  subst hQ
                  exact m_vret hx hb hr hlk hK hM hS dX8_tell_250 (⟨hR.eqv (tel_T (by first | exact tel_take1 c_8 c_28 | exact tel_take2 c_8 c_39 | exact tel_take3 c_8 c_49) hx9) rfl rfl, hF⟩)
                · have hj9 := (rou_step hW4 hW60 ha1 ha2 he1 he2 hj).mp (by have z := Int32.not_le.mp c_161; rw [hyj, hW, e_n2, ee9] at z; exact z)
                  refine lv_iload hx hb dX8_tell_164 (lv_at hl 1 rfl) ?_
                  refine lv_aload_n hx hb dX8_tell_166 rfl (lv_at hl 2 rfl) ?_
                  refine rm_getS hx hb ht ui_X8 hown hK hM hR (ht _ uw_594) dX8_tell_167 ?_
                  refine lv_bipush (v := nI 102) hx hb dX8_tell_170 (by first | rfl | decide) ?_
                  refine rm_sald hx hb hK hM hR (i := 102) (by omega) dX8_tell_172 ?_
                  refine lv_iadd hx hb dX8_tell_173 ?_
                  refine lv_istore (lv' := [(6, .int ((y9) + (σ 102))), (7, .int (ee)), (0, .ref (Y)), (1, .int (nI i)), (2, .int (x)), (3, .int (h)), (4, .int (t)), (5, .int (c9))]) hx hb dX8_tell_174 hl (by decide) rfl (fun ls hl => ?_)
                  refine lv_goto (tgt := 137) hx hb dX8_tell_176 (by decide) ?_
                  have ee9 : ee = telE σ i c9 := e_ee
                  exact ih_137 (j + 1) (y9 + σ 102) _ _ _ (by omega) (by omega) (by rw [hyj, hW]; exact rou_next j) hM hS (lv_sub hl [1, 0, 2, 3, 4, 5, 6, 7] rfl)
              exact loop_137 _ 0 n2 _ _ _ (Nat.lt_succ_self _) (Nat.zero_le _) (by rw [show nI 0 = 0 from rfl, Int32.mul_zero, Int32.add_zero]) hM hS (lv_sub hl [0, 1, 2, 3, 4, 5, 6, 7] rfl)
        · refine lv_aload_n hx hb dX8_tell_52 rfl (lv_at hl 0 rfl) ?_
          refine lv_iload_n hx hb dX8_tell_53 rfl (lv_at hl 1 rfl) ?_
          refine lv_bipush (v := nI 15) hx hb dX8_tell_54 (by first | rfl | decide) ?_
          refine lv_iconst (v := nI 1) hx hb dX8_tell_56 (by first | rfl | decide) ?_
          refine m_callV (As := [.int (nI i), .int (nI 15), .int (nI 1)]) (rest := []) ⟨hx, hb, hml, hown, ht⟩ (k_X8_add l g A M Y σ ar ns hR i 15 (nI 1) (by omega)) (cwV 3 ht (gU uw_642 uw_644 uw_13 uw_42 uw_645) rfl rfl rfl (by decide +kernel) ⟨by decide, by decide⟩) hK hM hS (m_recv hK hM (hR.1 Y (by omega) (by omega)) hR.2.1 rfl) rfl hl.1 rfl (Nat.le_of_ble_eq_true rfl) dX8_tell_57 ⟨by decide, by decide⟩ (fun M H locs hp hM hS => ?_)
          obtain ⟨hR, hF1⟩ := hp
          have hF := hF.tr hF1
          subst hQ
          exact m_vret hx hb hr hlk hK hM hS dX8_tell_60 (⟨hR.eqv (tel_twice (Int32.not_lt.mp (Int32.not_lt.mpr c_8)) c_28 c_39 (Int32.not_le.mp c_49)) rfl rfl, hF⟩)
  · refine lv_aload_n hx hb dX8_tell_11 rfl (lv_at hl 0 rfl) ?_
    refine lv_iload_n hx hb dX8_tell_12 rfl (lv_at hl 1 rfl) ?_
    refine lv_bipush (v := nI 14) hx hb dX8_tell_13 (by first | rfl | decide) ?_
    refine lv_iconst (v := nI 1) hx hb dX8_tell_15 (by first | rfl | decide) ?_
    refine m_callV (As := [.int (nI i), .int (nI 14), .int (nI 1)]) (rest := []) ⟨hx, hb, hml, hown, ht⟩ (k_X8_add l g A M Y σ ar ns hR i 14 (nI 1) (by omega)) (cwV 3 ht (gU uw_642 uw_644 uw_13 uw_42 uw_645) rfl rfl rfl (by decide +kernel) ⟨by decide, by decide⟩) hK hM hS (m_recv hK hM (hR.1 Y (by omega) (by omega)) hR.2.1 rfl) rfl hl.1 rfl (Nat.le_of_ble_eq_true rfl) dX8_tell_16 ⟨by decide, by decide⟩ (fun M H locs hp hM hS => ?_)
    obtain ⟨hR, hF1⟩ := hp
    have hF := hF.tr hF1
    subst hQ
    exact m_vret hx hb hr hlk hK hM hS dX8_tell_19 (⟨hR.eqv (tel_late (Int32.not_le.mp c_8)) rfl rfl, hF⟩)
