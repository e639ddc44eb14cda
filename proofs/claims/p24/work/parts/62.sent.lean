theorem dL_isSentSo_0 : decode cL_isSentSo 0 = .ok (.aload_n 0, 1) := by decide +kernel
theorem dL_isSentSo_1 : decode cL_isSentSo 1 = .ok (.iload_n 1, 1) := by decide +kernel
theorem dL_isSentSo_2 : decode cL_isSentSo 2 = .ok (.invokevirtual 52, 3) := by decide +kernel
theorem dL_isSentSo_5 : decode cL_isSentSo 5 = .ok (.istore_n 2, 1) := by decide +kernel
theorem dL_isSentSo_6 : decode cL_isSentSo 6 = .ok (.aload_n 0, 1) := by decide +kernel
theorem dL_isSentSo_7 : decode cL_isSentSo 7 = .ok (.iload_n 1, 1) := by decide +kernel
theorem dL_isSentSo_8 : decode cL_isSentSo 8 = .ok (.iconst 3, 1) := by decide +kernel
theorem dL_isSentSo_9 : decode cL_isSentSo 9 = .ok (.invokevirtual 46, 3) := by decide +kernel
theorem dL_isSentSo_12 : decode cL_isSentSo 12 = .ok (.istore_n 3, 1) := by decide +kernel
theorem dL_isSentSo_13 : decode cL_isSentSo 13 = .ok (.aload_n 0, 1) := by decide +kernel
theorem dL_isSentSo_14 : decode cL_isSentSo 14 = .ok (.iload_n 1, 1) := by decide +kernel
theorem dL_isSentSo_15 : decode cL_isSentSo 15 = .ok (.bipush 6, 2) := by decide +kernel
theorem dL_isSentSo_17 : decode cL_isSentSo 17 = .ok (.invokevirtual 43, 3) := by decide +kernel
theorem dL_isSentSo_20 : decode cL_isSentSo 20 = .ok (.istore 4, 2) := by decide +kernel
theorem dL_isSentSo_22 : decode cL_isSentSo 22 = .ok (.aload_n 0, 1) := by decide +kernel
theorem dL_isSentSo_23 : decode cL_isSentSo 23 = .ok (.iconst 3, 1) := by decide +kernel
theorem dL_isSentSo_24 : decode cL_isSentSo 24 = .ok (.invokevirtual 19, 3) := by decide +kernel
theorem dL_isSentSo_27 : decode cL_isSentSo 27 = .ok (.bipush 20, 2) := by decide +kernel
theorem dL_isSentSo_29 : decode cL_isSentSo 29 = .ok (.if_icmp .ne 5, 3) := by decide +kernel
theorem dL_isSentSo_32 : decode cL_isSentSo 32 = .ok (.iconst 1, 1) := by decide +kernel
theorem dL_isSentSo_33 : decode cL_isSentSo 33 = .ok (.ireturn, 1) := by decide +kernel
theorem dL_isSentSo_34 : decode cL_isSentSo 34 = .ok (.aload_n 0, 1) := by decide +kernel
theorem dL_isSentSo_35 : decode cL_isSentSo 35 = .ok (.iload_n 1, 1) := by decide +kernel
theorem dL_isSentSo_36 : decode cL_isSentSo 36 = .ok (.aload_n 0, 1) := by decide +kernel
theorem dL_isSentSo_37 : decode cL_isSentSo 37 = .ok (.iload_n 1, 1) := by decide +kernel
theorem dL_isSentSo_38 : decode cL_isSentSo 38 = .ok (.iconst 0, 1) := by decide +kernel
theorem dL_isSentSo_39 : decode cL_isSentSo 39 = .ok (.invokevirtual 43, 3) := by decide +kernel
theorem dL_isSentSo_42 : decode cL_isSentSo 42 = .ok (.aload_n 0, 1) := by decide +kernel
theorem dL_isSentSo_43 : decode cL_isSentSo 43 = .ok (.iload_n 1, 1) := by decide +kernel
theorem dL_isSentSo_44 : decode cL_isSentSo 44 = .ok (.iconst 1, 1) := by decide +kernel
theorem dL_isSentSo_45 : decode cL_isSentSo 45 = .ok (.invokevirtual 43, 3) := by decide +kernel
theorem dL_isSentSo_48 : decode cL_isSentSo 48 = .ok (.aload_n 0, 1) := by decide +kernel
theorem dL_isSentSo_49 : decode cL_isSentSo 49 = .ok (.iload_n 1, 1) := by decide +kernel
theorem dL_isSentSo_50 : decode cL_isSentSo 50 = .ok (.iconst 2, 1) := by decide +kernel
theorem dL_isSentSo_51 : decode cL_isSentSo 51 = .ok (.invokevirtual 43, 3) := by decide +kernel
theorem dL_isSentSo_54 : decode cL_isSentSo 54 = .ok (.iconst 0, 1) := by decide +kernel
theorem dL_isSentSo_55 : decode cL_isSentSo 55 = .ok (.invokevirtual 32, 3) := by decide +kernel
theorem dL_isSentSo_58 : decode cL_isSentSo 58 = .ok (.istore 5, 2) := by decide +kernel
theorem dL_isSentSo_60 : decode cL_isSentSo 60 = .ok (.iload 5, 2) := by decide +kernel
theorem dL_isSentSo_62 : decode cL_isSentSo 62 = .ok (.aload_n 0, 1) := by decide +kernel
theorem dL_isSentSo_63 : decode cL_isSentSo 63 = .ok (.iload_n 1, 1) := by decide +kernel
theorem dL_isSentSo_64 : decode cL_isSentSo 64 = .ok (.iconst 4, 1) := by decide +kernel
theorem dL_isSentSo_65 : decode cL_isSentSo 65 = .ok (.invokevirtual 43, 3) := by decide +kernel
theorem dL_isSentSo_68 : decode cL_isSentSo 68 = .ok (.if_icmp .ne 50, 3) := by decide +kernel
theorem dL_isSentSo_71 : decode cL_isSentSo 71 = .ok (.aload_n 0, 1) := by decide +kernel
theorem dL_isSentSo_72 : decode cL_isSentSo 72 = .ok (.iload_n 1, 1) := by decide +kernel
theorem dL_isSentSo_73 : decode cL_isSentSo 73 = .ok (.invokevirtual 23, 3) := by decide +kernel
theorem dL_isSentSo_76 : decode cL_isSentSo 76 = .ok (.iload 4, 2) := by decide +kernel
theorem dL_isSentSo_78 : decode cL_isSentSo 78 = .ok (.if_icmp .ne 40, 3) := by decide +kernel
theorem dL_isSentSo_81 : decode cL_isSentSo 81 = .ok (.aload_n 0, 1) := by decide +kernel
theorem dL_isSentSo_82 : decode cL_isSentSo 82 = .ok (.iload_n 1, 1) := by decide +kernel
theorem dL_isSentSo_83 : decode cL_isSentSo 83 = .ok (.iconst 3, 1) := by decide +kernel
theorem dL_isSentSo_84 : decode cL_isSentSo 84 = .ok (.invokevirtual 46, 3) := by decide +kernel
theorem dL_isSentSo_87 : decode cL_isSentSo 87 = .ok (.iload_n 2, 1) := by decide +kernel
theorem dL_isSentSo_88 : decode cL_isSentSo 88 = .ok (.if_icmp .ne 30, 3) := by decide +kernel
theorem dL_isSentSo_91 : decode cL_isSentSo 91 = .ok (.aload_n 0, 1) := by decide +kernel
theorem dL_isSentSo_92 : decode cL_isSentSo 92 = .ok (.iload_n 1, 1) := by decide +kernel
theorem dL_isSentSo_93 : decode cL_isSentSo 93 = .ok (.iconst 1, 1) := by decide +kernel
theorem dL_isSentSo_94 : decode cL_isSentSo 94 = .ok (.invokevirtual 46, 3) := by decide +kernel
theorem dL_isSentSo_97 : decode cL_isSentSo 97 = .ok (.aload_n 0, 1) := by decide +kernel
theorem dL_isSentSo_98 : decode cL_isSentSo 98 = .ok (.iconst 2, 1) := by decide +kernel
theorem dL_isSentSo_99 : decode cL_isSentSo 99 = .ok (.invokevirtual 19, 3) := by decide +kernel
theorem dL_isSentSo_102 : decode cL_isSentSo 102 = .ok (.if_icmp .ne 16, 3) := by decide +kernel
theorem dL_isSentSo_105 : decode cL_isSentSo 105 = .ok (.aload_n 0, 1) := by decide +kernel
theorem dL_isSentSo_106 : decode cL_isSentSo 106 = .ok (.iload_n 1, 1) := by decide +kernel
theorem dL_isSentSo_107 : decode cL_isSentSo 107 = .ok (.invokevirtual 52, 3) := by decide +kernel
theorem dL_isSentSo_110 : decode cL_isSentSo 110 = .ok (.iload_n 2, 1) := by decide +kernel
theorem dL_isSentSo_111 : decode cL_isSentSo 111 = .ok (.if_icmp .ne 7, 3) := by decide +kernel
theorem dL_isSentSo_114 : decode cL_isSentSo 114 = .ok (.iconst 1, 1) := by decide +kernel
theorem dL_isSentSo_115 : decode cL_isSentSo 115 = .ok (.goto 4, 3) := by decide +kernel
theorem dL_isSentSo_118 : decode cL_isSentSo 118 = .ok (.iconst 0, 1) := by decide +kernel
theorem dL_isSentSo_119 : decode cL_isSentSo 119 = .ok (.istore 6, 2) := by decide +kernel
theorem dL_isSentSo_121 : decode cL_isSentSo 121 = .ok (.iload_n 3, 1) := by decide +kernel
theorem dL_isSentSo_122 : decode cL_isSentSo 122 = .ok (.iload_n 2, 1) := by decide +kernel
theorem dL_isSentSo_123 : decode cL_isSentSo 123 = .ok (.isub, 1) := by decide +kernel
theorem dL_isSentSo_124 : decode cL_isSentSo 124 = .ok (.istore 7, 2) := by decide +kernel
theorem dL_isSentSo_126 : decode cL_isSentSo 126 = .ok (.iload 6, 2) := by decide +kernel
theorem dL_isSentSo_128 : decode cL_isSentSo 128 = .ok (.ifCond .eq 31, 3) := by decide +kernel
theorem dL_isSentSo_131 : decode cL_isSentSo 131 = .ok (.iload 7, 2) := by decide +kernel
theorem dL_isSentSo_133 : decode cL_isSentSo 133 = .ok (.ifCond .lt 26, 3) := by decide +kernel
theorem dL_isSentSo_136 : decode cL_isSentSo 136 = .ok (.aload_n 0, 1) := by decide +kernel
theorem dL_isSentSo_137 : decode cL_isSentSo 137 = .ok (.iconst 1, 1) := by decide +kernel
theorem dL_isSentSo_138 : decode cL_isSentSo 138 = .ok (.invokevirtual 19, 3) := by decide +kernel
theorem dL_isSentSo_141 : decode cL_isSentSo 141 = .ok (.iconst 1, 1) := by decide +kernel
theorem dL_isSentSo_142 : decode cL_isSentSo 142 = .ok (.if_icmp .eq 13, 3) := by decide +kernel
theorem dL_isSentSo_145 : decode cL_isSentSo 145 = .ok (.iload 7, 2) := by decide +kernel
theorem dL_isSentSo_147 : decode cL_isSentSo 147 = .ok (.aload_n 0, 1) := by decide +kernel
theorem dL_isSentSo_148 : decode cL_isSentSo 148 = .ok (.iconst 0, 1) := by decide +kernel
theorem dL_isSentSo_149 : decode cL_isSentSo 149 = .ok (.invokevirtual 19, 3) := by decide +kernel
theorem dL_isSentSo_152 : decode cL_isSentSo 152 = .ok (.if_icmp .ge 7, 3) := by decide +kernel
theorem dL_isSentSo_155 : decode cL_isSentSo 155 = .ok (.iconst 1, 1) := by decide +kernel
theorem dL_isSentSo_156 : decode cL_isSentSo 156 = .ok (.goto 4, 3) := by decide +kernel
theorem dL_isSentSo_159 : decode cL_isSentSo 159 = .ok (.iconst 0, 1) := by decide +kernel
theorem dL_isSentSo_160 : decode cL_isSentSo 160 = .ok (.istore 6, 2) := by decide +kernel
theorem dL_isSentSo_162 : decode cL_isSentSo 162 = .ok (.aload_n 0, 1) := by decide +kernel
theorem dL_isSentSo_163 : decode cL_isSentSo 163 = .ok (.invokevirtual 39, 3) := by decide +kernel
theorem dL_isSentSo_166 : decode cL_isSentSo 166 = .ok (.istore 8, 2) := by decide +kernel
theorem dL_isSentSo_168 : decode cL_isSentSo 168 = .ok (.aload_n 0, 1) := by decide +kernel
theorem dL_isSentSo_169 : decode cL_isSentSo 169 = .ok (.invokevirtual 39, 3) := by decide +kernel
theorem dL_isSentSo_172 : decode cL_isSentSo 172 = .ok (.istore 8, 2) := by decide +kernel
theorem dL_isSentSo_174 : decode cL_isSentSo 174 = .ok (.iload 6, 2) := by decide +kernel
theorem dL_isSentSo_176 : decode cL_isSentSo 176 = .ok (.ifCond .eq 22, 3) := by decide +kernel
theorem dL_isSentSo_179 : decode cL_isSentSo 179 = .ok (.iload 8, 2) := by decide +kernel
theorem dL_isSentSo_181 : decode cL_isSentSo 181 = .ok (.ifCond .lt 17, 3) := by decide +kernel
theorem dL_isSentSo_184 : decode cL_isSentSo 184 = .ok (.aload_n 0, 1) := by decide +kernel
theorem dL_isSentSo_185 : decode cL_isSentSo 185 = .ok (.iload_n 1, 1) := by decide +kernel
theorem dL_isSentSo_186 : decode cL_isSentSo 186 = .ok (.iconst 3, 1) := by decide +kernel
theorem dL_isSentSo_187 : decode cL_isSentSo 187 = .ok (.invokevirtual 46, 3) := by decide +kernel
theorem dL_isSentSo_190 : decode cL_isSentSo 190 = .ok (.iload_n 3, 1) := by decide +kernel
theorem dL_isSentSo_191 : decode cL_isSentSo 191 = .ok (.if_icmp .ne 7, 3) := by decide +kernel
theorem dL_isSentSo_194 : decode cL_isSentSo 194 = .ok (.iconst 1, 1) := by decide +kernel
theorem dL_isSentSo_195 : decode cL_isSentSo 195 = .ok (.goto 4, 3) := by decide +kernel
theorem dL_isSentSo_198 : decode cL_isSentSo 198 = .ok (.iconst 0, 1) := by decide +kernel
theorem dL_isSentSo_199 : decode cL_isSentSo 199 = .ok (.ireturn, 1) := by decide +kernel
set_option maxHeartbeats 4000000 in
set_option maxRecDepth 100000 in
/-- a runner who is sent now brings the gap that is told -/
theorem k_L_isSentSo (l : Launch) (g : GG) (A : Nat → Prop) (M0 : MM) (X : Nat) (κ : CS) (B Hm T : Nat) (hXS : RXS g A M0 M0 X κ) (S : zSI B Hm T κ) (hB9 : 9 ≤ B) (hH : Hm ≤ 9000) (hT : T ≤ 900000) (i : Nat) (hi : i < 6) : Met l yL_isSentSo (Uw yL_isSentSo cL_isSentSo 9 (Option.some ClassFile.FieldType.boolean)) (rmD 6) (PreM [.ref (X), .int (nI i)] g A M0) (PosI (fun r M1 => r = 1 ∧ ∃ c1, RXS g A M1 M1 X c1 ∧ zSI B Hm (T + 1) c1) g A) 0 0 A := by
  refine mk_Met (own := RL) rfl rfl (by decide) (Nat.le_of_ble_eq_true rfl) ?_
  intro p e s m below meth c ls aa Q haa hQ hx hb hr hlk hml hown hts hK hM hS hl hnm
  obtain ⟨M, hMM⟩ : ∃ M, M = M0 := ⟨_, rfl⟩
  rw [← hMM] at hM hXS
  have ht : ∀ w ∈ lw_good, w.before _ s = true := fun w h => hts w (List.mem_cons_of_mem _ h)
  have hl : lv_has ls 9 [(0, .ref (X)), (1, .int (nI i))] := hl
  obtain ⟨hCI, ⟨n, h, hhH, hg, P⟩, hHis⟩ := id S
  have hn := P.2.1
  have hh2 := P.2.2.2.1
  have G := (P.2.2.2.2.1 i hi).1
  refine lv_aload_n hx hb dL_isSentSo_0 rfl (lv_at hl 0 rfl) ?_
  refine lv_iload_n hx hb dL_isSentSo_1 rfl (lv_at hl 1 rfl) ?_
  refine m_callI (As := [.int (nI i)]) (rest := []) ⟨hx, hb, hml, hown, ht⟩ (q_sent l g A M X hXS hCI (nI i)) (cwV 1 ht (gU uw_735 uw_531 uw_532 uw_34 uw_533) rfl rfl rfl (by decide +kernel) ⟨Nat.le_of_ble_eq_true rfl, Nat.le_of_ble_eq_true rfl⟩) hK hM hS (m_recv hK hM hXS.ob.1 hXS.ob.2 rfl) rfl hl.1 rfl (Nat.le_of_ble_eq_true rfl) dL_isSentSo_2 ⟨Nat.le_of_ble_eq_true rfl, Nat.le_of_ble_eq_true rfl⟩ (fun r9 M H locs hp hM hS => ?_)
  obtain ⟨⟨t9, e9⟩, hX9⟩ := hp
  have hXS := hX9.at
  have e9 : r9 = sentG κ i := e9.trans (sent_eq hi)
  subst e9
  refine lv_istore_n (lv' := [(2, .int (sentG κ i)), (0, .ref (X)), (1, .int (nI i))]) hx hb dL_isSentSo_5 rfl hl (by decide) rfl (fun ls hl => ?_)
  refine lv_aload_n hx hb dL_isSentSo_6 rfl (lv_at hl 1 rfl) ?_
  refine lv_iload_n hx hb dL_isSentSo_7 rfl (lv_at hl 2 rfl) ?_
  refine lv_iconst (v := nI 3) hx hb dL_isSentSo_8 (by first | rfl | decide) ?_
  refine m_callRI (val := κ.1.2.1 i 5 - κ.1.2.1 i 8) (As := [.int (nI i), .int (nI 3)]) (rest := []) ⟨hx, hb, hml, hown, ht⟩ (q_ledger l g A M X hXS hCI hi (led_3 _ _)) (cwV 2 ht (gU uw_2018 uw_490 uw_491 uw_34 uw_492) rfl rfl rfl (by decide +kernel) ⟨Nat.le_of_ble_eq_true rfl, Nat.le_of_ble_eq_true rfl⟩) hK hM hS (m_recv hK hM hXS.ob.1 hXS.ob.2 rfl) rfl hl.1 rfl (Nat.le_of_ble_eq_true rfl) dL_isSentSo_9 ⟨Nat.le_of_ble_eq_true rfl, Nat.le_of_ble_eq_true rfl⟩ (fun H locs hM hS => ?_)
  refine lv_istore_n (lv' := [(3, .int (κ.1.2.1 i 5 - κ.1.2.1 i 8)), (2, .int (sentG κ i)), (0, .ref (X)), (1, .int (nI i))]) hx hb dL_isSentSo_12 rfl hl (by decide) rfl (fun ls hl => ?_)
  refine lv_aload_n hx hb dL_isSentSo_13 rfl (lv_at hl 2 rfl) ?_
  refine lv_iload_n hx hb dL_isSentSo_14 rfl (lv_at hl 3 rfl) ?_
  refine lv_bipush (v := nI 6) hx hb dL_isSentSo_15 (by first | rfl | decide) ?_
  refine m_callRI (val := whC κ.1 (κ.1.2.1 i 5)) (As := [.int (nI i), .int (nI 6)]) (rest := []) ⟨hx, hb, hml, hown, ht⟩ (q_gaugeOf l g A M X hXS hCI hi (fac_6 _ _)) (cwV 2 ht (gU uw_2017 uw_481 uw_482 uw_34 uw_483) rfl rfl rfl (by decide +kernel) ⟨Nat.le_of_ble_eq_true rfl, Nat.le_of_ble_eq_true rfl⟩) hK hM hS (m_recv hK hM hXS.ob.1 hXS.ob.2 rfl) rfl hl.1 rfl (Nat.le_of_ble_eq_true rfl) dL_isSentSo_17 ⟨Nat.le_of_ble_eq_true rfl, Nat.le_of_ble_eq_true rfl⟩ (fun H locs hM hS => ?_)
  refine lv_istore (lv' := [(4, .int (whC κ.1 (κ.1.2.1 i 5))), (3, .int (κ.1.2.1 i 5 - κ.1.2.1 i 8)), (2, .int (sentG κ i)), (0, .ref (X)), (1, .int (nI i))]) hx hb dL_isSentSo_20 hl (by decide) rfl (fun ls hl => ?_)
  refine lv_aload_n hx hb dL_isSentSo_22 rfl (lv_at hl 3 rfl) ?_
  refine lv_iconst (v := nI 3) hx hb dL_isSentSo_23 (by first | rfl | decide) ?_
  refine m_callRI (val := nI n) (As := [.int (nI 3)]) (rest := []) ⟨hx, hb, hml, hown, ht⟩ (q_count l g A M X hXS hCI ((cnt_3 _).trans hn)) (cwV 1 ht (gU uw_2012 uw_503 uw_504 uw_34 uw_505) rfl rfl rfl (by decide +kernel) ⟨Nat.le_of_ble_eq_true rfl, Nat.le_of_ble_eq_true rfl⟩) hK hM hS (m_recv hK hM hXS.ob.1 hXS.ob.2 rfl) rfl hl.1 rfl (Nat.le_of_ble_eq_true rfl) dL_isSentSo_24 ⟨Nat.le_of_ble_eq_true rfl, Nat.le_of_ble_eq_true rfl⟩ (fun H locs hM hS => ?_)
  refine lv_bipush (v := nI 20) hx hb dL_isSentSo_27 (by first | rfl | decide) ?_
  refine lv_icmp_ne (tgt := 34) hx hb dL_isSentSo_29 (by decide) (fun c_29 => ?_) (fun c_29 => ?_)
  · have h20 : n < 20 := by
      rcases Nat.lt_or_ge n 20 with z | z
      · exact z
      · exact absurd (congrArg nI (show n = 20 by have := P.1; omega)) c_29
    refine lv_aload_n hx hb dL_isSentSo_34 rfl (lv_at hl 3 rfl) ?_
    refine lv_iload_n hx hb dL_isSentSo_35 rfl (lv_at hl 4 rfl) ?_
    refine lv_aload_n hx hb dL_isSentSo_36 rfl (lv_at hl 3 rfl) ?_
    refine lv_iload_n hx hb dL_isSentSo_37 rfl (lv_at hl 4 rfl) ?_
    refine lv_iconst (v := nI 0) hx hb dL_isSentSo_38 (by first | rfl | decide) ?_
    refine m_callRI (val := κ.1.2.1 i 0) (As := [.int (nI i), .int (nI 0)]) (rest := [.int (nI i), .ref (X)]) ⟨hx, hb, hml, hown, ht⟩ (q_gaugeOf l g A M X hXS hCI hi (fac_0 _ _)) (cwV 2 ht (gU uw_2017 uw_481 uw_482 uw_34 uw_483) rfl rfl rfl (by decide +kernel) ⟨Nat.le_of_ble_eq_true rfl, Nat.le_of_ble_eq_true rfl⟩) hK hM hS (m_recv hK hM hXS.ob.1 hXS.ob.2 rfl) rfl hl.1 rfl (Nat.le_of_ble_eq_true rfl) dL_isSentSo_39 ⟨Nat.le_of_ble_eq_true rfl, Nat.le_of_ble_eq_true rfl⟩ (fun H locs hM hS => ?_)
    refine lv_aload_n hx hb dL_isSentSo_42 rfl (lv_at hl 3 rfl) ?_
    refine lv_iload_n hx hb dL_isSentSo_43 rfl (lv_at hl 4 rfl) ?_
    refine lv_iconst (v := nI 1) hx hb dL_isSentSo_44 (by first | rfl | decide) ?_
    refine m_callRI (val := κ.1.2.1 i 1) (As := [.int (nI i), .int (nI 1)]) (rest := [.int (κ.1.2.1 i 0), .int (nI i), .ref (X)]) ⟨hx, hb, hml, hown, ht⟩ (q_gaugeOf l g A M X hXS hCI hi (fac_1 _ _)) (cwV 2 ht (gU uw_2017 uw_481 uw_482 uw_34 uw_483) rfl rfl rfl (by decide +kernel) ⟨Nat.le_of_ble_eq_true rfl, Nat.le_of_ble_eq_true rfl⟩) hK hM hS (m_recv hK hM hXS.ob.1 hXS.ob.2 rfl) rfl hl.1 rfl (Nat.le_of_ble_eq_true rfl) dL_isSentSo_45 ⟨Nat.le_of_ble_eq_true rfl, Nat.le_of_ble_eq_true rfl⟩ (fun H locs hM hS => ?_)
    refine lv_aload_n hx hb dL_isSentSo_48 rfl (lv_at hl 3 rfl) ?_
    refine lv_iload_n hx hb dL_isSentSo_49 rfl (lv_at hl 4 rfl) ?_
    refine lv_iconst (v := nI 2) hx hb dL_isSentSo_50 (by first | rfl | decide) ?_
    refine m_callRI (val := κ.1.2.1 i 2) (As := [.int (nI i), .int (nI 2)]) (rest := [.int (κ.1.2.1 i 1), .int (κ.1.2.1 i 0), .int (nI i), .ref (X)]) ⟨hx, hb, hml, hown, ht⟩ (q_gaugeOf l g A M X hXS hCI hi (fac_2 _ _)) (cwV 2 ht (gU uw_2017 uw_481 uw_482 uw_34 uw_483) rfl rfl rfl (by decide +kernel) ⟨Nat.le_of_ble_eq_true rfl, Nat.le_of_ble_eq_true rfl⟩) hK hM hS (m_recv hK hM hXS.ob.1 hXS.ob.2 rfl) rfl hl.1 rfl (Nat.le_of_ble_eq_true rfl) dL_isSentSo_51 ⟨Nat.le_of_ble_eq_true rfl, Nat.le_of_ble_eq_true rfl⟩ (fun H locs hM hS => ?_)
    refine lv_iconst (v := nI 0) hx hb dL_isSentSo_54 (by first | rfl | decide) ?_
    refine m_callI (As := [.int (nI i), .int (κ.1.2.1 i 0), .int (κ.1.2.1 i 1), .int (κ.1.2.1 i 2), .int (nI 0)]) (rest := []) ⟨hx, hb, hml, hown, ht⟩ (q_gauge l g A M X hXS hCI hi (a := κ.1.2.1 i 0) (b := κ.1.2.1 i 1) (d := κ.1.2.1 i 2) (w := 0) G.1 G.2.1 G.2.2.1 (by omega)) (cwV 5 ht (gU uw_414 uw_342 uw_343 uw_34 uw_344) rfl rfl rfl (by decide +kernel) ⟨Nat.le_of_ble_eq_true rfl, Nat.le_of_ble_eq_true rfl⟩) hK hM hS (m_recv hK hM hXS.ob.1 hXS.ob.2 rfl) rfl hl.1 rfl (Nat.le_of_ble_eq_true rfl) dL_isSentSo_55 ⟨Nat.le_of_ble_eq_true rfl, Nat.le_of_ble_eq_true rfl⟩ (fun r8 M H locs hp hM hS => ?_)
    obtain ⟨e8, hX9⟩ := hp
    have hXS := hX9.at
    subst e8
    obtain ⟨c2, ec2⟩ : ∃ c2, c2 = recX κ (gauV κ.1 i (κ.1.2.1 i 0) (κ.1.2.1 i 1) (κ.1.2.1 i 2) (nI 0)) := ⟨_, rfl⟩
    rw [← ec2] at hXS
    obtain ⟨c3, ec3⟩ : ∃ c3, c3 = recX c2 (senC c2.1 i n) := ⟨_, rfl⟩
    obtain ⟨S2, n2, f4, fs, S3, fg, f9, f2, fG, f1, f0, fw, fb, ftop⟩ := sent_facts S P hhH (by omega) hg hi h20 hB9 (by omega) ec2 ec3
    have hCI2 := S2.1
    refine lv_istore (lv' := [(5, .int (κ.1.2.1 i 4)), (4, .int (whC κ.1 (κ.1.2.1 i 5))), (3, .int (κ.1.2.1 i 5 - κ.1.2.1 i 8)), (2, .int (sentG κ i)), (0, .ref (X)), (1, .int (nI i))]) hx hb dL_isSentSo_58 hl (by decide) rfl (fun ls hl => ?_)
    refine lv_iload hx hb dL_isSentSo_60 (lv_at hl 0 rfl) ?_
    refine lv_aload_n hx hb dL_isSentSo_62 rfl (lv_at hl 4 rfl) ?_
    refine lv_iload_n hx hb dL_isSentSo_63 rfl (lv_at hl 5 rfl) ?_
    refine lv_iconst (v := nI 4) hx hb dL_isSentSo_64 (by first | rfl | decide) ?_
    refine m_callRI (val := c2.1.2.1 i 4) (As := [.int (nI i), .int (nI 4)]) (rest := [.int (κ.1.2.1 i 4)]) ⟨hx, hb, hml, hown, ht⟩ (q_gaugeOf l g A M X hXS hCI2 hi (fac_4 _ _)) (cwV 2 ht (gU uw_2017 uw_481 uw_482 uw_34 uw_483) rfl rfl rfl (by decide +kernel) ⟨Nat.le_of_ble_eq_true rfl, Nat.le_of_ble_eq_true rfl⟩) hK hM hS (m_recv hK hM hXS.ob.1 hXS.ob.2 rfl) rfl hl.1 rfl (Nat.le_of_ble_eq_true rfl) dL_isSentSo_65 ⟨Nat.le_of_ble_eq_true rfl, Nat.le_of_ble_eq_true rfl⟩ (fun H locs hM hS => ?_)
    refine lv_icmp_ne (tgt := 118) hx hb dL_isSentSo_68 (by decide) (fun c_68 => absurd (f4.symm) c_68) (fun c_68 => ?_)
    refine lv_aload_n hx hb dL_isSentSo_71 rfl (lv_at hl 4 rfl) ?_
    refine lv_iload_n hx hb dL_isSentSo_72 rfl (lv_at hl 5 rfl) ?_
    refine m_callI (As := [.int (nI i)]) (rest := []) ⟨hx, hb, hml, hown, ht⟩ (q_send l g A M X hXS hCI2 hi n2 h20) (cwV 1 ht (gU uw_347 uw_397 uw_398 uw_34 uw_399) rfl rfl rfl (by decide +kernel) ⟨Nat.le_of_ble_eq_true rfl, Nat.le_of_ble_eq_true rfl⟩) hK hM hS (m_recv hK hM hXS.ob.1 hXS.ob.2 rfl) rfl hl.1 rfl (Nat.le_of_ble_eq_true rfl) dL_isSentSo_73 ⟨Nat.le_of_ble_eq_true rfl, Nat.le_of_ble_eq_true rfl⟩ (fun r7 M H locs hp hM hS => ?_)
    obtain ⟨e7, hX9⟩ := hp
    have hXS := hX9.at
    rw [← ec3] at hXS
    have e7 := e7.trans fs
    subst e7
    have hCI3 := S3.1
    refine lv_iload hx hb dL_isSentSo_76 (lv_at hl 1 rfl) ?_
    refine lv_icmp_ne (tgt := 118) hx hb dL_isSentSo_78 (by decide) (fun c_78 => absurd (rfl) c_78) (fun c_78 => ?_)
    refine lv_aload_n hx hb dL_isSentSo_81 rfl (lv_at hl 4 rfl) ?_
    refine lv_iload_n hx hb dL_isSentSo_82 rfl (lv_at hl 5 rfl) ?_
    refine lv_iconst (v := nI 3) hx hb dL_isSentSo_83 (by first | rfl | decide) ?_
    refine m_callRI (val := c3.1.2.1 i 5 - c3.1.2.1 i 8) (As := [.int (nI i), .int (nI 3)]) (rest := []) ⟨hx, hb, hml, hown, ht⟩ (q_ledger l g A M X hXS hCI3 hi (led_3 _ _)) (cwV 2 ht (gU uw_2018 uw_490 uw_491 uw_34 uw_492) rfl rfl rfl (by decide +kernel) ⟨Nat.le_of_ble_eq_true rfl, Nat.le_of_ble_eq_true rfl⟩) hK hM hS (m_recv hK hM hXS.ob.1 hXS.ob.2 rfl) rfl hl.1 rfl (Nat.le_of_ble_eq_true rfl) dL_isSentSo_84 ⟨Nat.le_of_ble_eq_true rfl, Nat.le_of_ble_eq_true rfl⟩ (fun H locs hM hS => ?_)
    refine lv_iload_n hx hb dL_isSentSo_87 rfl (lv_at hl 3 rfl) ?_
    refine lv_icmp_ne (tgt := 118) hx hb dL_isSentSo_88 (by decide) (fun c_88 => absurd (fg) c_88) (fun c_88 => ?_)
    refine lv_aload_n hx hb dL_isSentSo_91 rfl (lv_at hl 4 rfl) ?_
    refine lv_iload_n hx hb dL_isSentSo_92 rfl (lv_at hl 5 rfl) ?_
    refine lv_iconst (v := nI 1) hx hb dL_isSentSo_93 (by first | rfl | decide) ?_
    refine m_callRI (val := c3.1.2.1 i 9) (As := [.int (nI i), .int (nI 1)]) (rest := []) ⟨hx, hb, hml, hown, ht⟩ (q_ledger l g A M X hXS hCI3 hi (led_1 _ _)) (cwV 2 ht (gU uw_2018 uw_490 uw_491 uw_34 uw_492) rfl rfl rfl (by decide +kernel) ⟨Nat.le_of_ble_eq_true rfl, Nat.le_of_ble_eq_true rfl⟩) hK hM hS (m_recv hK hM hXS.ob.1 hXS.ob.2 rfl) rfl hl.1 rfl (Nat.le_of_ble_eq_true rfl) dL_isSentSo_94 ⟨Nat.le_of_ble_eq_true rfl, Nat.le_of_ble_eq_true rfl⟩ (fun H locs hM hS => ?_)
    refine lv_aload_n hx hb dL_isSentSo_97 rfl (lv_at hl 4 rfl) ?_
    refine lv_iconst (v := nI 2) hx hb dL_isSentSo_98 (by first | rfl | decide) ?_
    refine m_callRI (val := nI h) (As := [.int (nI 2)]) (rest := [.int (c3.1.2.1 i 9)]) ⟨hx, hb, hml, hown, ht⟩ (q_count l g A M X hXS hCI3 ((cnt_2 _).trans f2)) (cwV 1 ht (gU uw_2012 uw_503 uw_504 uw_34 uw_505) rfl rfl rfl (by decide +kernel) ⟨Nat.le_of_ble_eq_true rfl, Nat.le_of_ble_eq_true rfl⟩) hK hM hS (m_recv hK hM hXS.ob.1 hXS.ob.2 rfl) rfl hl.1 rfl (Nat.le_of_ble_eq_true rfl) dL_isSentSo_99 ⟨Nat.le_of_ble_eq_true rfl, Nat.le_of_ble_eq_true rfl⟩ (fun H locs hM hS => ?_)
    refine lv_icmp_ne (tgt := 118) hx hb dL_isSentSo_102 (by decide) (fun c_102 => absurd (f9) c_102) (fun c_102 => ?_)
    refine lv_aload_n hx hb dL_isSentSo_105 rfl (lv_at hl 4 rfl) ?_
    refine lv_iload_n hx hb dL_isSentSo_106 rfl (lv_at hl 5 rfl) ?_
    refine m_callI (As := [.int (nI i)]) (rest := []) ⟨hx, hb, hml, hown, ht⟩ (q_sent l g A M X hXS hCI3 (nI i)) (cwV 1 ht (gU uw_735 uw_531 uw_532 uw_34 uw_533) rfl rfl rfl (by decide +kernel) ⟨Nat.le_of_ble_eq_true rfl, Nat.le_of_ble_eq_true rfl⟩) hK hM hS (m_recv hK hM hXS.ob.1 hXS.ob.2 rfl) rfl hl.1 rfl (Nat.le_of_ble_eq_true rfl) dL_isSentSo_107 ⟨Nat.le_of_ble_eq_true rfl, Nat.le_of_ble_eq_true rfl⟩ (fun r6 M H locs hp hM hS => ?_)
    obtain ⟨⟨t6, e6⟩, hX9⟩ := hp
    have hXS := hX9.at
    have e6 : r6 = sentG κ i := (e6.trans (sent_eq hi)).trans fG
    subst e6
    refine lv_iload_n hx hb dL_isSentSo_110 rfl (lv_at hl 3 rfl) ?_
    refine lv_icmp_ne (tgt := 118) hx hb dL_isSentSo_111 (by decide) (fun c_111 => absurd (rfl) c_111) (fun c_111 => ?_)
    refine lv_iconst (v := nI 1) hx hb dL_isSentSo_114 (by first | rfl | decide) ?_
    refine lv_goto (tgt := 119) hx hb dL_isSentSo_115 (by decide) ?_
    refine lv_istore (lv' := [(6, .int (nI 1)), (5, .int (κ.1.2.1 i 4)), (4, .int (whC κ.1 (κ.1.2.1 i 5))), (3, .int (κ.1.2.1 i 5 - κ.1.2.1 i 8)), (2, .int (sentG κ i)), (0, .ref (X)), (1, .int (nI i))]) hx hb dL_isSentSo_119 hl (by decide) rfl (fun ls hl => ?_)
    refine lv_iload_n hx hb dL_isSentSo_121 rfl (lv_at hl 3 rfl) ?_
    refine lv_iload_n hx hb dL_isSentSo_122 rfl (lv_at hl 4 rfl) ?_
    refine lv_isub hx hb dL_isSentSo_123 ?_
    refine lv_istore (lv' := [(7, .int ((κ.1.2.1 i 5 - κ.1.2.1 i 8) - (sentG κ i))), (6, .int (nI 1)), (5, .int (κ.1.2.1 i 4)), (4, .int (whC κ.1 (κ.1.2.1 i 5))), (3, .int (κ.1.2.1 i 5 - κ.1.2.1 i 8)), (2, .int (sentG κ i)), (0, .ref (X)), (1, .int (nI i))]) hx hb dL_isSentSo_124 hl (by decide) rfl (fun ls hl => ?_)
    refine lv_iload hx hb dL_isSentSo_126 (lv_at hl 1 rfl) ?_
    refine lv_if_eq (tgt := 159) hx hb dL_isSentSo_128 (by decide) (fun c_128 => absurd c_128 (by decide)) (fun c_128 => ?_)
    refine lv_iload hx hb dL_isSentSo_131 (lv_at hl 0 rfl) ?_
    refine lv_if_lt (tgt := 159) hx hb dL_isSentSo_133 (by decide) (fun c_133 => absurd c_133 (fw)) (fun c_133 => ?_)
    refine lv_aload_n hx hb dL_isSentSo_136 rfl (lv_at hl 6 rfl) ?_
    refine lv_iconst (v := nI 1) hx hb dL_isSentSo_137 (by first | rfl | decide) ?_
    refine m_callRI (val := c3.1.1 1) (As := [.int (nI 1)]) (rest := []) ⟨hx, hb, hml, hown, ht⟩ (q_count l g A M X hXS hCI3 (cnt_1 _)) (cwV 1 ht (gU uw_2012 uw_503 uw_504 uw_34 uw_505) rfl rfl rfl (by decide +kernel) ⟨Nat.le_of_ble_eq_true rfl, Nat.le_of_ble_eq_true rfl⟩) hK hM hS (m_recv hK hM hXS.ob.1 hXS.ob.2 rfl) rfl hl.1 rfl (Nat.le_of_ble_eq_true rfl) dL_isSentSo_138 ⟨Nat.le_of_ble_eq_true rfl, Nat.le_of_ble_eq_true rfl⟩ (fun H locs hM hS => ?_)
    refine lv_iconst (v := nI 1) hx hb dL_isSentSo_141 (by first | rfl | decide) ?_
    refine lv_icmp_eq (tgt := 155) hx hb dL_isSentSo_142 (by decide) (fun c_142 => ?_) (fun c_142 => ?_)
    · refine lv_iconst (v := nI 1) hx hb dL_isSentSo_155 (by first | rfl | decide) ?_
      refine lv_goto (tgt := 160) hx hb dL_isSentSo_156 (by decide) ?_
      refine lv_istore (lv' := [(6, .int (nI 1)), (7, .int ((κ.1.2.1 i 5 - κ.1.2.1 i 8) - (sentG κ i))), (5, .int (κ.1.2.1 i 4)), (4, .int (whC κ.1 (κ.1.2.1 i 5))), (3, .int (κ.1.2.1 i 5 - κ.1.2.1 i 8)), (2, .int (sentG κ i)), (0, .ref (X)), (1, .int (nI i))]) hx hb dL_isSentSo_160 hl (by decide) rfl (fun ls hl => ?_)
      refine lv_aload_n hx hb dL_isSentSo_162 rfl (lv_at hl 6 rfl) ?_
      refine m_callI (As := []) (rest := []) ⟨hx, hb, hml, hown, ht⟩ (q_undo l g A M X hXS hCI3) (cwV 0 ht (gU uw_706 uw_572 uw_573 uw_34 uw_574) rfl rfl rfl (by decide +kernel) ⟨Nat.le_of_ble_eq_true rfl, Nat.le_of_ble_eq_true rfl⟩) hK hM hS (m_recv hK hM hXS.ob.1 hXS.ob.2 rfl) rfl hl.1 rfl (Nat.le_of_ble_eq_true rfl) dL_isSentSo_163 ⟨Nat.le_of_ble_eq_true rfl, Nat.le_of_ble_eq_true rfl⟩ (fun r5 M H locs hp hM hS => ?_)
      obtain ⟨e5, hX9⟩ := hp
      have hXS := hX9.at
      obtain ⟨c4, ec4⟩ : ∃ c4, c4 = (oUndo c3).2 := ⟨_, rfl⟩
      rw [← ec4] at hXS
      have S4 : zSI B Hm (T + 1) c4 := by rw [ec4]; exact S3.undo
      have top4 : zTop c4 κ.1 n := by rw [ec4]; exact undo_top2 ftop
      have hCI4 := S4.1
      refine lv_istore (lv' := [(8, .int (r5)), (6, .int (nI 1)), (7, .int ((κ.1.2.1 i 5 - κ.1.2.1 i 8) - (sentG κ i))), (5, .int (κ.1.2.1 i 4)), (4, .int (whC κ.1 (κ.1.2.1 i 5))), (3, .int (κ.1.2.1 i 5 - κ.1.2.1 i 8)), (2, .int (sentG κ i)), (0, .ref (X)), (1, .int (nI i))]) hx hb dL_isSentSo_166 hl (by decide) rfl (fun ls hl => ?_)
      refine lv_aload_n hx hb dL_isSentSo_168 rfl (lv_at hl 7 rfl) ?_
      refine m_callI (As := []) (rest := []) ⟨hx, hb, hml, hown, ht⟩ (q_undo l g A M X hXS hCI4) (cwV 0 ht (gU uw_706 uw_572 uw_573 uw_34 uw_574) rfl rfl rfl (by decide +kernel) ⟨Nat.le_of_ble_eq_true rfl, Nat.le_of_ble_eq_true rfl⟩) hK hM hS (m_recv hK hM hXS.ob.1 hXS.ob.2 rfl) rfl hl.1 rfl (Nat.le_of_ble_eq_true rfl) dL_isSentSo_169 ⟨Nat.le_of_ble_eq_true rfl, Nat.le_of_ble_eq_true rfl⟩ (fun r4 M H locs hp hM hS => ?_)
      obtain ⟨e4, hX9⟩ := hp
      have hXS := hX9.at
      obtain ⟨E5, q5, eq5, ek5⟩ := undo_top top4
      have e4 := e4.trans eq5
      subst e4
      have hq5 : q5 ≤ 6 := by have := hCI4.2.1; omega
      obtain ⟨c5, ec5⟩ : ∃ c5, c5 = (oUndo c4).2 := ⟨_, rfl⟩
      rw [← ec5] at hXS E5
      have S5 : zSI B Hm (T + 1) c5 := by rw [ec5]; exact S4.undo
      have hCI5 := S5.1
      refine lv_istore (lv' := [(8, .int (nI q5)), (6, .int (nI 1)), (7, .int ((κ.1.2.1 i 5 - κ.1.2.1 i 8) - (sentG κ i))), (5, .int (κ.1.2.1 i 4)), (4, .int (whC κ.1 (κ.1.2.1 i 5))), (3, .int (κ.1.2.1 i 5 - κ.1.2.1 i 8)), (2, .int (sentG κ i)), (0, .ref (X)), (1, .int (nI i))]) hx hb dL_isSentSo_172 hl (by decide) rfl (fun ls hl => ?_)
      refine lv_iload hx hb dL_isSentSo_174 (lv_at hl 1 rfl) ?_
      refine lv_if_eq (tgt := 198) hx hb dL_isSentSo_176 (by decide) (fun c_176 => absurd c_176 (by decide)) (fun c_176 => ?_)
      refine lv_iload hx hb dL_isSentSo_179 (lv_at hl 0 rfl) ?_
      refine lv_if_lt (tgt := 198) hx hb dL_isSentSo_181 (by decide) (fun c_181 => absurd c_181 (nIge0 (by omega))) (fun c_181 => ?_)
      refine lv_aload_n hx hb dL_isSentSo_184 rfl (lv_at hl 7 rfl) ?_
      refine lv_iload_n hx hb dL_isSentSo_185 rfl (lv_at hl 8 rfl) ?_
      refine lv_iconst (v := nI 3) hx hb dL_isSentSo_186 (by first | rfl | decide) ?_
      refine m_callRI (val := c5.1.2.1 i 5 - c5.1.2.1 i 8) (As := [.int (nI i), .int (nI 3)]) (rest := []) ⟨hx, hb, hml, hown, ht⟩ (q_ledger l g A M X hXS hCI5 hi (led_3 _ _)) (cwV 2 ht (gU uw_2018 uw_490 uw_491 uw_34 uw_492) rfl rfl rfl (by decide +kernel) ⟨Nat.le_of_ble_eq_true rfl, Nat.le_of_ble_eq_true rfl⟩) hK hM hS (m_recv hK hM hXS.ob.1 hXS.ob.2 rfl) rfl hl.1 rfl (Nat.le_of_ble_eq_true rfl) dL_isSentSo_187 ⟨Nat.le_of_ble_eq_true rfl, Nat.le_of_ble_eq_true rfl⟩ (fun H locs hM hS => ?_)
      refine lv_iload_n hx hb dL_isSentSo_190 rfl (lv_at hl 5 rfl) ?_
      refine lv_icmp_ne (tgt := 198) hx hb dL_isSentSo_191 (by decide) (fun c_191 => absurd (by rw [E5.2.1 i hi 5 (by omega), E5.2.1 i hi 8 (by omega)]) c_191) (fun c_191 => ?_)
      refine lv_iconst (v := nI 1) hx hb dL_isSentSo_194 (by first | rfl | decide) ?_
      refine lv_goto (tgt := 199) hx hb dL_isSentSo_195 (by decide) ?_
      subst hQ
      exact m_zret hx hb hr (rfl) hlk hK hM hS dL_isSentSo_199 (⟨rfl, c5, hXS, S5⟩)
    · refine lv_iload hx hb dL_isSentSo_145 (lv_at hl 0 rfl) ?_
      refine lv_aload_n hx hb dL_isSentSo_147 rfl (lv_at hl 6 rfl) ?_
      refine lv_iconst (v := nI 0) hx hb dL_isSentSo_148 (by first | rfl | decide) ?_
      refine m_callRI (val := c3.1.1 0) (As := [.int (nI 0)]) (rest := [.int ((κ.1.2.1 i 5 - κ.1.2.1 i 8) - (sentG κ i))]) ⟨hx, hb, hml, hown, ht⟩ (q_count l g A M X hXS hCI3 (cnt_0 _)) (cwV 1 ht (gU uw_2012 uw_503 uw_504 uw_34 uw_505) rfl rfl rfl (by decide +kernel) ⟨Nat.le_of_ble_eq_true rfl, Nat.le_of_ble_eq_true rfl⟩) hK hM hS (m_recv hK hM hXS.ob.1 hXS.ob.2 rfl) rfl hl.1 rfl (Nat.le_of_ble_eq_true rfl) dL_isSentSo_149 ⟨Nat.le_of_ble_eq_true rfl, Nat.le_of_ble_eq_true rfl⟩ (fun H locs hM hS => ?_)
      refine lv_icmp_ge (tgt := 159) hx hb dL_isSentSo_152 (by decide) (fun c_152 => absurd c_152 (fb.elim (fun z => absurd (f1.trans z) c_142) (fun z => by rw [f0]; exact z))) (fun c_152 => ?_)
      refine lv_iconst (v := nI 1) hx hb dL_isSentSo_155 (by first | rfl | decide) ?_
      refine lv_goto (tgt := 160) hx hb dL_isSentSo_156 (by decide) ?_
      refine lv_istore (lv' := [(6, .int (nI 1)), (7, .int ((κ.1.2.1 i 5 - κ.1.2.1 i 8) - (sentG κ i))), (5, .int (κ.1.2.1 i 4)), (4, .int (whC κ.1 (κ.1.2.1 i 5))), (3, .int (κ.1.2.1 i 5 - κ.1.2.1 i 8)), (2, .int (sentG κ i)), (0, .ref (X)), (1, .int (nI i))]) hx hb dL_isSentSo_160 hl (by decide) rfl (fun ls hl => ?_)
      refine lv_aload_n hx hb dL_isSentSo_162 rfl (lv_at hl 6 rfl) ?_
      refine m_callI (As := []) (rest := []) ⟨hx, hb, hml, hown, ht⟩ (q_undo l g A M X hXS hCI3) (cwV 0 ht (gU uw_706 uw_572 uw_573 uw_34 uw_574) rfl rfl rfl (by decide +kernel) ⟨Nat.le_of_ble_eq_true rfl, Nat.le_of_ble_eq_true rfl⟩) hK hM hS (m_recv hK hM hXS.ob.1 hXS.ob.2 rfl) rfl hl.1 rfl (Nat.le_of_ble_eq_true rfl) dL_isSentSo_163 ⟨Nat.le_of_ble_eq_true rfl, Nat.le_of_ble_eq_true rfl⟩ (fun r5 M H locs hp hM hS => ?_)
      obtain ⟨e5, hX9⟩ := hp
      have hXS := hX9.at
      obtain ⟨c4, ec4⟩ : ∃ c4, c4 = (oUndo c3).2 := ⟨_, rfl⟩
      rw [← ec4] at hXS
      have S4 : zSI B Hm (T + 1) c4 := by rw [ec4]; exact S3.undo
      have top4 : zTop c4 κ.1 n := by rw [ec4]; exact undo_top2 ftop
      have hCI4 := S4.1
      refine lv_istore (lv' := [(8, .int (r5)), (6, .int (nI 1)), (7, .int ((κ.1.2.1 i 5 - κ.1.2.1 i 8) - (sentG κ i))), (5, .int (κ.1.2.1 i 4)), (4, .int (whC κ.1 (κ.1.2.1 i 5))), (3, .int (κ.1.2.1 i 5 - κ.1.2.1 i 8)), (2, .int (sentG κ i)), (0, .ref (X)), (1, .int (nI i))]) hx hb dL_isSentSo_166 hl (by decide) rfl (fun ls hl => ?_)
      refine lv_aload_n hx hb dL_isSentSo_168 rfl (lv_at hl 7 rfl) ?_
      refine m_callI (As := []) (rest := []) ⟨hx, hb, hml, hown, ht⟩ (q_undo l g A M X hXS hCI4) (cwV 0 ht (gU uw_706 uw_572 uw_573 uw_34 uw_574) rfl rfl rfl (by decide +kernel) ⟨Nat.le_of_ble_eq_true rfl, Nat.le_of_ble_eq_true rfl⟩) hK hM hS (m_recv hK hM hXS.ob.1 hXS.ob.2 rfl) rfl hl.1 rfl (Nat.le_of_ble_eq_true rfl) dL_isSentSo_169 ⟨Nat.le_of_ble_eq_true rfl, Nat.le_of_ble_eq_true rfl⟩ (fun r4 M H locs hp hM hS => ?_)
      obtain ⟨e4, hX9⟩ := hp
      have hXS := hX9.at
      obtain ⟨E5, q5, eq5, ek5⟩ := undo_top top4
      have e4 := e4.trans eq5
      subst e4
      have hq5 : q5 ≤ 6 := by have := hCI4.2.1; omega
      obtain ⟨c5, ec5⟩ : ∃ c5, c5 = (oUndo c4).2 := ⟨_, rfl⟩
      rw [← ec5] at hXS E5
      have S5 : zSI B Hm (T + 1) c5 := by rw [ec5]; exact S4.undo
      have hCI5 := S5.1
      refine lv_istore (lv' := [(8, .int (nI q5)), (6, .int (nI 1)), (7, .int ((κ.1.2.1 i 5 - κ.1.2.1 i 8) - (sentG κ i))), (5, .int (κ.1.2.1 i 4)), (4, .int (whC κ.1 (κ.1.2.1 i 5))), (3, .int (κ.1.2.1 i 5 - κ.1.2.1 i 8)), (2, .int (sentG κ i)), (0, .ref (X)), (1, .int (nI i))]) hx hb dL_isSentSo_172 hl (by decide) rfl (fun ls hl => ?_)
      refine lv_iload hx hb dL_isSentSo_174 (lv_at hl 1 rfl) ?_
      refine lv_if_eq (tgt := 198) hx hb dL_isSentSo_176 (by decide) (fun c_176 => absurd c_176 (by decide)) (fun c_176 => ?_)
      refine lv_iload hx hb dL_isSentSo_179 (lv_at hl 0 rfl) ?_
      refine lv_if_lt (tgt := 198) hx hb dL_isSentSo_181 (by decide) (fun c_181 => absurd c_181 (nIge0 (by omega))) (fun c_181 => ?_)
      refine lv_aload_n hx hb dL_isSentSo_184 rfl (lv_at hl 7 rfl) ?_
      refine lv_iload_n hx hb dL_isSentSo_185 rfl (lv_at hl 8 rfl) ?_
      refine lv_iconst (v := nI 3) hx hb dL_isSentSo_186 (by first | rfl | decide) ?_
      refine m_callRI (val := c5.1.2.1 i 5 - c5.1.2.1 i 8) (As := [.int (nI i), .int (nI 3)]) (rest := []) ⟨hx, hb, hml, hown, ht⟩ (q_ledger l g A M X hXS hCI5 hi (led_3 _ _)) (cwV 2 ht (gU uw_2018 uw_490 uw_491 uw_34 uw_492) rfl rfl rfl (by decide +kernel) ⟨Nat.le_of_ble_eq_true rfl, Nat.le_of_ble_eq_true rfl⟩) hK hM hS (m_recv hK hM hXS.ob.1 hXS.ob.2 rfl) rfl hl.1 rfl (Nat.le_of_ble_eq_true rfl) dL_isSentSo_187 ⟨Nat.le_of_ble_eq_true rfl, Nat.le_of_ble_eq_true rfl⟩ (fun H locs hM hS => ?_)
      refine lv_iload_n hx hb dL_isSentSo_190 rfl (lv_at hl 5 rfl) ?_
      refine lv_icmp_ne (tgt := 198) hx hb dL_isSentSo_191 (by decide) (fun c_191 => absurd (by rw [E5.2.1 i hi 5 (by omega), E5.2.1 i hi 8 (by omega)]) c_191) (fun c_191 => ?_)
      refine lv_iconst (v := nI 1) hx hb dL_isSentSo_194 (by first | rfl | decide) ?_
      refine lv_goto (tgt := 199) hx hb dL_isSentSo_195 (by decide) ?_
      subst hQ
      exact m_zret hx hb hr (rfl) hlk hK hM hS dL_isSentSo_199 (⟨rfl, c5, hXS, S5⟩)
  · refine lv_iconst (v := nI 1) hx hb dL_isSentSo_32 (by first | rfl | decide) ?_
    subst hQ
    exact m_zret hx hb hr (rfl) hlk hK hM hS dL_isSentSo_33 (⟨rfl, κ, hXS, S.mono (by omega) (by omega) (by omega)⟩)
