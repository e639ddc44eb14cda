theorem dL_isAllSo_0 : decode cL_isAllSo 0 = .ok (.aload_n 0, 1) := by decide +kernel
theorem dL_isAllSo_1 : decode cL_isAllSo 1 = .ok (.iload_n 1, 1) := by decide +kernel
theorem dL_isAllSo_2 : decode cL_isAllSo 2 = .ok (.invokevirtual 55, 3) := by decide +kernel
theorem dL_isAllSo_5 : decode cL_isAllSo 5 = .ok (.istore_n 2, 1) := by decide +kernel
theorem dL_isAllSo_6 : decode cL_isAllSo 6 = .ok (.iconst 0, 1) := by decide +kernel
theorem dL_isAllSo_7 : decode cL_isAllSo 7 = .ok (.istore_n 3, 1) := by decide +kernel
theorem dL_isAllSo_8 : decode cL_isAllSo 8 = .ok (.iconst 0, 1) := by decide +kernel
theorem dL_isAllSo_9 : decode cL_isAllSo 9 = .ok (.istore 4, 2) := by decide +kernel
theorem dL_isAllSo_11 : decode cL_isAllSo 11 = .ok (.iload 4, 2) := by decide +kernel
theorem dL_isAllSo_13 : decode cL_isAllSo 13 = .ok (.aload_n 0, 1) := by decide +kernel
theorem dL_isAllSo_14 : decode cL_isAllSo 14 = .ok (.iconst 3, 1) := by decide +kernel
theorem dL_isAllSo_15 : decode cL_isAllSo 15 = .ok (.invokevirtual 19, 3) := by decide +kernel
theorem dL_isAllSo_18 : decode cL_isAllSo 18 = .ok (.if_icmp .ge 32, 3) := by decide +kernel
theorem dL_isAllSo_21 : decode cL_isAllSo 21 = .ok (.aload_n 0, 1) := by decide +kernel
theorem dL_isAllSo_22 : decode cL_isAllSo 22 = .ok (.iload 4, 2) := by decide +kernel
theorem dL_isAllSo_24 : decode cL_isAllSo 24 = .ok (.iconst 3, 1) := by decide +kernel
theorem dL_isAllSo_25 : decode cL_isAllSo 25 = .ok (.invokevirtual 49, 3) := by decide +kernel
theorem dL_isAllSo_28 : decode cL_isAllSo 28 = .ok (.iload_n 3, 1) := by decide +kernel
theorem dL_isAllSo_29 : decode cL_isAllSo 29 = .ok (.if_icmp .le 13, 3) := by decide +kernel
theorem dL_isAllSo_32 : decode cL_isAllSo 32 = .ok (.aload_n 0, 1) := by decide +kernel
theorem dL_isAllSo_33 : decode cL_isAllSo 33 = .ok (.iload 4, 2) := by decide +kernel
theorem dL_isAllSo_35 : decode cL_isAllSo 35 = .ok (.iconst 3, 1) := by decide +kernel
theorem dL_isAllSo_36 : decode cL_isAllSo 36 = .ok (.invokevirtual 49, 3) := by decide +kernel
theorem dL_isAllSo_39 : decode cL_isAllSo 39 = .ok (.goto 4, 3) := by decide +kernel
theorem dL_isAllSo_42 : decode cL_isAllSo 42 = .ok (.iload_n 3, 1) := by decide +kernel
theorem dL_isAllSo_43 : decode cL_isAllSo 43 = .ok (.istore_n 3, 1) := by decide +kernel
theorem dL_isAllSo_44 : decode cL_isAllSo 44 = .ok (.iinc 4 1, 3) := by decide +kernel
theorem dL_isAllSo_47 : decode cL_isAllSo 47 = .ok (.goto (-36), 3) := by decide +kernel
theorem dL_isAllSo_50 : decode cL_isAllSo 50 = .ok (.iload_n 3, 1) := by decide +kernel
theorem dL_isAllSo_51 : decode cL_isAllSo 51 = .ok (.ifCond .ne 19, 3) := by decide +kernel
theorem dL_isAllSo_54 : decode cL_isAllSo 54 = .ok (.iload_n 2, 1) := by decide +kernel
theorem dL_isAllSo_55 : decode cL_isAllSo 55 = .ok (.aload_n 0, 1) := by decide +kernel
theorem dL_isAllSo_56 : decode cL_isAllSo 56 = .ok (.iload_n 1, 1) := by decide +kernel
theorem dL_isAllSo_57 : decode cL_isAllSo 57 = .ok (.iconst 3, 1) := by decide +kernel
theorem dL_isAllSo_58 : decode cL_isAllSo 58 = .ok (.invokevirtual 46, 3) := by decide +kernel
theorem dL_isAllSo_61 : decode cL_isAllSo 61 = .ok (.if_icmp .ne 7, 3) := by decide +kernel
theorem dL_isAllSo_64 : decode cL_isAllSo 64 = .ok (.iconst 1, 1) := by decide +kernel
theorem dL_isAllSo_65 : decode cL_isAllSo 65 = .ok (.goto 4, 3) := by decide +kernel
theorem dL_isAllSo_68 : decode cL_isAllSo 68 = .ok (.iconst 0, 1) := by decide +kernel
theorem dL_isAllSo_69 : decode cL_isAllSo 69 = .ok (.ireturn, 1) := by decide +kernel
theorem dL_isAllSo_70 : decode cL_isAllSo 70 = .ok (.iload_n 3, 1) := by decide +kernel
theorem dL_isAllSo_71 : decode cL_isAllSo 71 = .ok (.bipush 24, 2) := by decide +kernel
theorem dL_isAllSo_73 : decode cL_isAllSo 73 = .ok (.if_icmp .le 5, 3) := by decide +kernel
theorem dL_isAllSo_76 : decode cL_isAllSo 76 = .ok (.iconst 1, 1) := by decide +kernel
theorem dL_isAllSo_77 : decode cL_isAllSo 77 = .ok (.ireturn, 1) := by decide +kernel
theorem dL_isAllSo_78 : decode cL_isAllSo 78 = .ok (.aload_n 0, 1) := by decide +kernel
theorem dL_isAllSo_79 : decode cL_isAllSo 79 = .ok (.iconst 3, 1) := by decide +kernel
theorem dL_isAllSo_80 : decode cL_isAllSo 80 = .ok (.invokevirtual 19, 3) := by decide +kernel
theorem dL_isAllSo_83 : decode cL_isAllSo 83 = .ok (.istore 4, 2) := by decide +kernel
theorem dL_isAllSo_85 : decode cL_isAllSo 85 = .ok (.aload_n 0, 1) := by decide +kernel
theorem dL_isAllSo_86 : decode cL_isAllSo 86 = .ok (.iconst 0, 1) := by decide +kernel
theorem dL_isAllSo_87 : decode cL_isAllSo 87 = .ok (.iload_n 3, 1) := by decide +kernel
theorem dL_isAllSo_88 : decode cL_isAllSo 88 = .ok (.invokevirtual 14, 3) := by decide +kernel
theorem dL_isAllSo_91 : decode cL_isAllSo 91 = .ok (.istore 5, 2) := by decide +kernel
theorem dL_isAllSo_93 : decode cL_isAllSo 93 = .ok (.iload 5, 2) := by decide +kernel
theorem dL_isAllSo_95 : decode cL_isAllSo 95 = .ok (.ifCond .lt 25, 3) := by decide +kernel
theorem dL_isAllSo_98 : decode cL_isAllSo 98 = .ok (.aload_n 0, 1) := by decide +kernel
theorem dL_isAllSo_99 : decode cL_isAllSo 99 = .ok (.iconst 3, 1) := by decide +kernel
theorem dL_isAllSo_100 : decode cL_isAllSo 100 = .ok (.invokevirtual 19, 3) := by decide +kernel
theorem dL_isAllSo_103 : decode cL_isAllSo 103 = .ok (.ifCond .ne 17, 3) := by decide +kernel
theorem dL_isAllSo_106 : decode cL_isAllSo 106 = .ok (.aload_n 0, 1) := by decide +kernel
theorem dL_isAllSo_107 : decode cL_isAllSo 107 = .ok (.iload_n 1, 1) := by decide +kernel
theorem dL_isAllSo_108 : decode cL_isAllSo 108 = .ok (.iconst 3, 1) := by decide +kernel
theorem dL_isAllSo_109 : decode cL_isAllSo 109 = .ok (.invokevirtual 46, 3) := by decide +kernel
theorem dL_isAllSo_112 : decode cL_isAllSo 112 = .ok (.iload_n 2, 1) := by decide +kernel
theorem dL_isAllSo_113 : decode cL_isAllSo 113 = .ok (.if_icmp .ne 7, 3) := by decide +kernel
theorem dL_isAllSo_116 : decode cL_isAllSo 116 = .ok (.iconst 1, 1) := by decide +kernel
theorem dL_isAllSo_117 : decode cL_isAllSo 117 = .ok (.goto 4, 3) := by decide +kernel
theorem dL_isAllSo_120 : decode cL_isAllSo 120 = .ok (.iconst 0, 1) := by decide +kernel
theorem dL_isAllSo_121 : decode cL_isAllSo 121 = .ok (.istore 6, 2) := by decide +kernel
theorem dL_isAllSo_123 : decode cL_isAllSo 123 = .ok (.aload_n 0, 1) := by decide +kernel
theorem dL_isAllSo_124 : decode cL_isAllSo 124 = .ok (.invokevirtual 39, 3) := by decide +kernel
theorem dL_isAllSo_127 : decode cL_isAllSo 127 = .ok (.istore 7, 2) := by decide +kernel
theorem dL_isAllSo_129 : decode cL_isAllSo 129 = .ok (.iload 6, 2) := by decide +kernel
theorem dL_isAllSo_131 : decode cL_isAllSo 131 = .ok (.ifCond .eq 22, 3) := by decide +kernel
theorem dL_isAllSo_134 : decode cL_isAllSo 134 = .ok (.iload 7, 2) := by decide +kernel
theorem dL_isAllSo_136 : decode cL_isAllSo 136 = .ok (.ifCond .lt 17, 3) := by decide +kernel
theorem dL_isAllSo_139 : decode cL_isAllSo 139 = .ok (.aload_n 0, 1) := by decide +kernel
theorem dL_isAllSo_140 : decode cL_isAllSo 140 = .ok (.iconst 3, 1) := by decide +kernel
theorem dL_isAllSo_141 : decode cL_isAllSo 141 = .ok (.invokevirtual 19, 3) := by decide +kernel
theorem dL_isAllSo_144 : decode cL_isAllSo 144 = .ok (.iload 4, 2) := by decide +kernel
theorem dL_isAllSo_146 : decode cL_isAllSo 146 = .ok (.if_icmp .ne 7, 3) := by decide +kernel
theorem dL_isAllSo_149 : decode cL_isAllSo 149 = .ok (.iconst 1, 1) := by decide +kernel
theorem dL_isAllSo_150 : decode cL_isAllSo 150 = .ok (.goto 4, 3) := by decide +kernel
theorem dL_isAllSo_153 : decode cL_isAllSo 153 = .ok (.iconst 0, 1) := by decide +kernel
theorem dL_isAllSo_154 : decode cL_isAllSo 154 = .ok (.ireturn, 1) := by decide +kernel
set_option maxHeartbeats 4000000 in
set_option maxRecDepth 100000 in
/-- all who are on the way bring the gap that is told -/
theorem k_L_isAllSo (l : Launch) (g : GG) (A : Nat → Prop) (M0 : MM) (X : Nat) (κ : CS) (B Hm T : Nat) (hXS : RXS g A M0 M0 X κ) (S : zSI B Hm T κ) (hB : B < 70) (hH : Hm ≤ 3900) (hT : T ≤ 900000) (i : Nat) (hi : i < 6) : Met l yL_isAllSo (Uw yL_isAllSo cL_isAllSo 8 (Option.some ClassFile.FieldType.boolean)) (rmD 7) (PreM [.ref (X), .int (nI i)] g A M0) (PosI (fun r M1 => r = 1 ∧ ∃ c1, RXS g A M1 M1 X c1 ∧ zSI B (Hm + 24) (T + 480) c1) g A) 0 0 A := by
  refine mk_Met (own := RL) rfl rfl (by decide) (Nat.le_of_ble_eq_true rfl) ?_
  intro p e s m below meth c ls aa Q haa hQ hx hb hr hlk hml hown hts hK hM hS hl hnm
  obtain ⟨M, hMM⟩ : ∃ M, M = M0 := ⟨_, rfl⟩
  rw [← hMM] at hM hXS
  have ht : ∀ w ∈ lw_good, w.before _ s = true := fun w h => hts w (List.mem_cons_of_mem _ h)
  have hl : lv_has ls 8 [(0, .ref (X)), (1, .int (nI i))] := hl
  obtain ⟨hCI, ⟨n, h, hhH, hg, P⟩, hHis⟩ := id S
  have hn := P.2.1
  have hh2 := P.2.2.2.1
  obtain ⟨q, hq, hqB, hql⟩ := lon_int P (by omega) n (Nat.le_refl n)
  refine lv_aload_n hx hb dL_isAllSo_0 rfl (lv_at hl 0 rfl) ?_
  refine lv_iload_n hx hb dL_isAllSo_1 rfl (lv_at hl 1 rfl) ?_
  refine m_callI (As := [.int (nI i)]) (rest := []) ⟨hx, hb, hml, hown, ht⟩ (q_allc l g A M X hXS hCI (nI i)) (cwV 1 ht (gU uw_2025 uw_535 uw_536 uw_34 uw_537) rfl rfl rfl (by decide +kernel) ⟨Nat.le_of_ble_eq_true rfl, Nat.le_of_ble_eq_true rfl⟩) hK hM hS (m_recv hK hM hXS.ob.1 hXS.ob.2 rfl) rfl hl.1 rfl (Nat.le_of_ble_eq_true rfl) dL_isAllSo_2 ⟨Nat.le_of_ble_eq_true rfl, Nat.le_of_ble_eq_true rfl⟩ (fun r9 M H locs hp hM hS => ?_)
  obtain ⟨⟨t9, e9⟩, hX9⟩ := hp
  have hXS := hX9.at
  have e9 : r9 = (pasC (nI 0) κ.1 q).2.1 i 5 - (pasC (nI 0) κ.1 q).2.1 i 8 := e9.trans (allc_eq P hi hq (by omega))
  subst e9
  refine lv_istore_n (lv' := [(2, .int ((pasC (nI 0) κ.1 q).2.1 i 5 - (pasC (nI 0) κ.1 q).2.1 i 8)), (0, .ref (X)), (1, .int (nI i))]) hx hb dL_isAllSo_5 rfl hl (by decide) rfl (fun ls hl => ?_)
  refine lv_iconst (v := nI 0) hx hb dL_isAllSo_6 (by first | rfl | decide) ?_
  refine lv_istore_n (lv' := [(3, .int (nI 0)), (2, .int ((pasC (nI 0) κ.1 q).2.1 i 5 - (pasC (nI 0) κ.1 q).2.1 i 8)), (0, .ref (X)), (1, .int (nI i))]) hx hb dL_isAllSo_7 rfl hl (by decide) rfl (fun ls hl => ?_)
  refine lv_iconst (v := nI 0) hx hb dL_isAllSo_8 (by first | rfl | decide) ?_
  refine lv_istore (lv' := [(4, .int (nI 0)), (3, .int (nI 0)), (2, .int ((pasC (nI 0) κ.1 q).2.1 i 5 - (pasC (nI 0) κ.1 q).2.1 i 8)), (0, .ref (X)), (1, .int (nI i))]) hx hb dL_isAllSo_9 hl (by decide) rfl (fun ls hl => ?_)
  have loop_11 : ∀ (z_11 : Nat) (j : Nat) (H : Heap) (locs : List Loc) (ls : Array Slot), n - j < z_11 → j ≤ n → HD g A M H → va_S A s.heap H locs → lv_has ls 8 [(4, .int (nI j)), (3, .int (lonC κ.1 j)), (2, .int ((pasC (nI 0) κ.1 q).2.1 i 5 - (pasC (nI 0) κ.1 q).2.1 i 8)), (0, .ref (X)), (1, .int (nI i))] → W p l e (rmD 7) s m aa below meth c H locs 0 0 Q (F0 m 11 ls []) := by
    intro z_11
    induction z_11 with
    | zero => intro j H locs ls hz hj; exact absurd hz (Nat.not_lt_zero _)
    | succ z_11 ih_11 =>
    intro j H locs ls hz hj hM  hS hl
    refine lv_iload hx hb dL_isAllSo_11 (lv_at hl 0 rfl) ?_
    refine lv_aload_n hx hb dL_isAllSo_13 rfl (lv_at hl 3 rfl) ?_
    refine lv_iconst (v := nI 3) hx hb dL_isAllSo_14 (by first | rfl | decide) ?_
    refine m_callRI (val := nI n) (As := [.int (nI 3)]) (rest := [.int (nI j)]) ⟨hx, hb, hml, hown, ht⟩ (q_count l g A M X hXS hCI ((cnt_3 _).trans hn)) (cwV 1 ht (gU uw_2012 uw_503 uw_504 uw_34 uw_505) rfl rfl rfl (by decide +kernel) ⟨Nat.le_of_ble_eq_true rfl, Nat.le_of_ble_eq_true rfl⟩) hK hM hS (m_recv hK hM hXS.ob.1 hXS.ob.2 rfl) rfl hl.1 rfl (Nat.le_of_ble_eq_true rfl) dL_isAllSo_15 ⟨Nat.le_of_ble_eq_true rfl, Nat.le_of_ble_eq_true rfl⟩ (fun H locs hM hS => ?_)
    refine lv_icmp_ge (tgt := 50) hx hb dL_isAllSo_18 (by decide) (fun c_18 => ?_) (fun c_18 => ?_)
    · have h6 : j = n := Nat.le_antisymm hj (nI_le_of (by have := P.1; omega) (by have := P.1; omega) c_18)
      rw [h6, hq] at hl
      refine lv_iload_n hx hb dL_isAllSo_50 rfl (lv_at hl 1 rfl) ?_
      refine lv_if_ne (tgt := 70) hx hb dL_isAllSo_51 (by decide) (fun c_51 => ?_) (fun c_51 => ?_)
      · refine lv_iload_n hx hb dL_isAllSo_70 rfl (lv_at hl 1 rfl) ?_
        refine lv_bipush (v := nI 24) hx hb dL_isAllSo_71 (by first | rfl | decide) ?_
        refine lv_icmp_le (tgt := 78) hx hb dL_isAllSo_73 (by decide) (fun c_73 => ?_) (fun c_73 => ?_)
        · have hq24 : q ≤ 24 := nI_le_of (by omega) (by omega) c_73
          have hq1 : 1 ≤ q := Nat.pos_of_ne_zero (fun z => c_51 (by rw [z]; rfl))
          refine lv_aload_n hx hb dL_isAllSo_78 rfl (lv_at hl 3 rfl) ?_
          refine lv_iconst (v := nI 3) hx hb dL_isAllSo_79 (by first | rfl | decide) ?_
          refine m_callRI (val := nI n) (As := [.int (nI 3)]) (rest := []) ⟨hx, hb, hml, hown, ht⟩ (q_count l g A M X hXS hCI ((cnt_3 _).trans hn)) (cwV 1 ht (gU uw_2012 uw_503 uw_504 uw_34 uw_505) rfl rfl rfl (by decide +kernel) ⟨Nat.le_of_ble_eq_true rfl, Nat.le_of_ble_eq_true rfl⟩) hK hM hS (m_recv hK hM hXS.ob.1 hXS.ob.2 rfl) rfl hl.1 rfl (Nat.le_of_ble_eq_true rfl) dL_isAllSo_80 ⟨Nat.le_of_ble_eq_true rfl, Nat.le_of_ble_eq_true rfl⟩ (fun H locs hM hS => ?_)
          refine lv_istore (lv' := [(4, .int (nI n)), (3, .int (nI q)), (2, .int ((pasC (nI 0) κ.1 q).2.1 i 5 - (pasC (nI 0) κ.1 q).2.1 i 8)), (0, .ref (X)), (1, .int (nI i))]) hx hb dL_isAllSo_83 hl (by decide) rfl (fun ls hl => ?_)
          refine lv_aload_n hx hb dL_isAllSo_85 rfl (lv_at hl 3 rfl) ?_
          refine lv_iconst (v := nI 0) hx hb dL_isAllSo_86 (by first | rfl | decide) ?_
          refine lv_iload_n hx hb dL_isAllSo_87 rfl (lv_at hl 1 rfl) ?_
          refine m_callI (As := [.int (nI 0), .int (nI q)]) (rest := []) ⟨hx, hb, hml, hown, ht⟩ (q_rain l g A M X hXS hCI (y := 0) (q := q) (by omega) hq1 hq24 hh2 (by omega)) (cwV 2 ht (gU uw_2011 uw_348 uw_349 uw_34 uw_350) rfl rfl rfl (by decide +kernel) ⟨Nat.le_of_ble_eq_true rfl, Nat.le_of_ble_eq_true rfl⟩) hK hM hS (m_recv hK hM hXS.ob.1 hXS.ob.2 rfl) rfl hl.1 rfl (Nat.le_of_ble_eq_true rfl) dL_isAllSo_88 ⟨Nat.le_of_ble_eq_true rfl, Nat.le_of_ble_eq_true rfl⟩ (fun r8 M H locs hp hM hS => ?_)
          obtain ⟨e8, hX9⟩ := hp
          have hXS := hX9.at
          obtain ⟨c2, ec2⟩ : ∃ c2, c2 = recX κ (pasC (nI 0) κ.1 q) := ⟨_, rfl⟩
          have Z := S.rain P hhH hg (y := 0) (q := q) (by omega) hq24 (by omega) (by omega) (by omega)
          rw [← ec2] at hXS Z
          have S2 := Z.1
          have hCI2 := S2.1
          have n2 : c2.1.1 3 = nI 0 := by rw [ec2]; exact all_come P hql (by omega) (by omega) (by omega)
          have top2 : zTop c2 κ.1 n := by rw [ec2]; exact rec_top P.onN _
          refine lv_istore (lv' := [(5, .int (r8)), (4, .int (nI n)), (3, .int (nI q)), (2, .int ((pasC (nI 0) κ.1 q).2.1 i 5 - (pasC (nI 0) κ.1 q).2.1 i 8)), (0, .ref (X)), (1, .int (nI i))]) hx hb dL_isAllSo_91 hl (by decide) rfl (fun ls hl => ?_)
          refine lv_iload hx hb dL_isAllSo_93 (lv_at hl 0 rfl) ?_
          refine lv_if_lt (tgt := 120) hx hb dL_isAllSo_95 (by decide) (fun c_95 => absurd c_95 (by rw [e8]; exact Z.2.2)) (fun c_95 => ?_)
          refine lv_aload_n hx hb dL_isAllSo_98 rfl (lv_at hl 4 rfl) ?_
          refine lv_iconst (v := nI 3) hx hb dL_isAllSo_99 (by first | rfl | decide) ?_
          refine m_callRI (val := nI 0) (As := [.int (nI 3)]) (rest := []) ⟨hx, hb, hml, hown, ht⟩ (q_count l g A M X hXS hCI2 ((cnt_3 _).trans n2)) (cwV 1 ht (gU uw_2012 uw_503 uw_504 uw_34 uw_505) rfl rfl rfl (by decide +kernel) ⟨Nat.le_of_ble_eq_true rfl, Nat.le_of_ble_eq_true rfl⟩) hK hM hS (m_recv hK hM hXS.ob.1 hXS.ob.2 rfl) rfl hl.1 rfl (Nat.le_of_ble_eq_true rfl) dL_isAllSo_100 ⟨Nat.le_of_ble_eq_true rfl, Nat.le_of_ble_eq_true rfl⟩ (fun H locs hM hS => ?_)
          refine lv_if_ne (tgt := 120) hx hb dL_isAllSo_103 (by decide) (fun c_103 => absurd (rfl) c_103) (fun c_103 => ?_)
          refine lv_aload_n hx hb dL_isAllSo_106 rfl (lv_at hl 4 rfl) ?_
          refine lv_iload_n hx hb dL_isAllSo_107 rfl (lv_at hl 5 rfl) ?_
          refine lv_iconst (v := nI 3) hx hb dL_isAllSo_108 (by first | rfl | decide) ?_
          refine m_callRI (val := c2.1.2.1 i 5 - c2.1.2.1 i 8) (As := [.int (nI i), .int (nI 3)]) (rest := []) ⟨hx, hb, hml, hown, ht⟩ (q_ledger l g A M X hXS hCI2 hi (led_3 _ _)) (cwV 2 ht (gU uw_2018 uw_490 uw_491 uw_34 uw_492) rfl rfl rfl (by decide +kernel) ⟨Nat.le_of_ble_eq_true rfl, Nat.le_of_ble_eq_true rfl⟩) hK hM hS (m_recv hK hM hXS.ob.1 hXS.ob.2 rfl) rfl hl.1 rfl (Nat.le_of_ble_eq_true rfl) dL_isAllSo_109 ⟨Nat.le_of_ble_eq_true rfl, Nat.le_of_ble_eq_true rfl⟩ (fun H locs hM hS => ?_)
          refine lv_iload_n hx hb dL_isAllSo_112 rfl (lv_at hl 3 rfl) ?_
          refine lv_icmp_ne (tgt := 120) hx hb dL_isAllSo_113 (by decide) (fun c_113 => absurd (by rw [ec2]; rfl) c_113) (fun c_113 => ?_)
          refine lv_iconst (v := nI 1) hx hb dL_isAllSo_116 (by first | rfl | decide) ?_
          refine lv_goto (tgt := 121) hx hb dL_isAllSo_117 (by decide) ?_
          refine lv_istore (lv' := [(6, .int (nI 1)), (5, .int (r8)), (4, .int (nI n)), (3, .int (nI q)), (2, .int ((pasC (nI 0) κ.1 q).2.1 i 5 - (pasC (nI 0) κ.1 q).2.1 i 8)), (0, .ref (X)), (1, .int (nI i))]) hx hb dL_isAllSo_121 hl (by decide) rfl (fun ls hl => ?_)
          refine lv_aload_n hx hb dL_isAllSo_123 rfl (lv_at hl 5 rfl) ?_
          refine m_callI (As := []) (rest := []) ⟨hx, hb, hml, hown, ht⟩ (q_undo l g A M X hXS hCI2) (cwV 0 ht (gU uw_706 uw_572 uw_573 uw_34 uw_574) rfl rfl rfl (by decide +kernel) ⟨Nat.le_of_ble_eq_true rfl, Nat.le_of_ble_eq_true rfl⟩) hK hM hS (m_recv hK hM hXS.ob.1 hXS.ob.2 rfl) rfl hl.1 rfl (Nat.le_of_ble_eq_true rfl) dL_isAllSo_124 ⟨Nat.le_of_ble_eq_true rfl, Nat.le_of_ble_eq_true rfl⟩ (fun r7 M H locs hp hM hS => ?_)
          obtain ⟨e7, hX9⟩ := hp
          have hXS := hX9.at
          obtain ⟨E3, q3, eq3, ek3⟩ := undo_top top2
          have e7 := e7.trans eq3
          subst e7
          have hq3 : q3 ≤ 6 := by have := hCI2.2.1; omega
          obtain ⟨c3, ec3⟩ : ∃ c3, c3 = (oUndo c2).2 := ⟨_, rfl⟩
          rw [← ec3] at hXS E3
          have S3 : zSI B (Hm + q) (T + 20 * q) c3 := by rw [ec3]; exact S2.undo
          have hCI3 := S3.1
          have n3 : c3.1.1 3 = nI n := (E3.1 3 (by omega)).trans hn
          refine lv_istore (lv' := [(7, .int (nI q3)), (6, .int (nI 1)), (5, .int (r8)), (4, .int (nI n)), (3, .int (nI q)), (2, .int ((pasC (nI 0) κ.1 q).2.1 i 5 - (pasC (nI 0) κ.1 q).2.1 i 8)), (0, .ref (X)), (1, .int (nI i))]) hx hb dL_isAllSo_127 hl (by decide) rfl (fun ls hl => ?_)
          refine lv_iload hx hb dL_isAllSo_129 (lv_at hl 1 rfl) ?_
          refine lv_if_eq (tgt := 153) hx hb dL_isAllSo_131 (by decide) (fun c_131 => absurd c_131 (by decide)) (fun c_131 => ?_)
          refine lv_iload hx hb dL_isAllSo_134 (lv_at hl 0 rfl) ?_
          refine lv_if_lt (tgt := 153) hx hb dL_isAllSo_136 (by decide) (fun c_136 => absurd c_136 (nIge0 (by omega))) (fun c_136 => ?_)
          refine lv_aload_n hx hb dL_isAllSo_139 rfl (lv_at hl 6 rfl) ?_
          refine lv_iconst (v := nI 3) hx hb dL_isAllSo_140 (by first | rfl | decide) ?_
          refine m_callRI (val := nI n) (As := [.int (nI 3)]) (rest := []) ⟨hx, hb, hml, hown, ht⟩ (q_count l g A M X hXS hCI3 ((cnt_3 _).trans n3)) (cwV 1 ht (gU uw_2012 uw_503 uw_504 uw_34 uw_505) rfl rfl rfl (by decide +kernel) ⟨Nat.le_of_ble_eq_true rfl, Nat.le_of_ble_eq_true rfl⟩) hK hM hS (m_recv hK hM hXS.ob.1 hXS.ob.2 rfl) rfl hl.1 rfl (Nat.le_of_ble_eq_true rfl) dL_isAllSo_141 ⟨Nat.le_of_ble_eq_true rfl, Nat.le_of_ble_eq_true rfl⟩ (fun H locs hM hS => ?_)
          refine lv_iload hx hb dL_isAllSo_144 (lv_at hl 3 rfl) ?_
          refine lv_icmp_ne (tgt := 153) hx hb dL_isAllSo_146 (by decide) (fun c_146 => absurd (rfl) c_146) (fun c_146 => ?_)
          refine lv_iconst (v := nI 1) hx hb dL_isAllSo_149 (by first | rfl | decide) ?_
          refine lv_goto (tgt := 154) hx hb dL_isAllSo_150 (by decide) ?_
          subst hQ
          exact m_zret hx hb hr (rfl) hlk hK hM hS dL_isAllSo_154 (⟨rfl, c3, hXS, S3.mono (by omega) (by omega) (by omega)⟩)
        · refine lv_iconst (v := nI 1) hx hb dL_isAllSo_76 (by first | rfl | decide) ?_
          subst hQ
          exact m_zret hx hb hr (rfl) hlk hK hM hS dL_isAllSo_77 (⟨rfl, κ, hXS, S.mono (by omega) (by omega) (by omega)⟩)
      · refine lv_iload_n hx hb dL_isAllSo_54 rfl (lv_at hl 2 rfl) ?_
        refine lv_aload_n hx hb dL_isAllSo_55 rfl (lv_at hl 3 rfl) ?_
        refine lv_iload_n hx hb dL_isAllSo_56 rfl (lv_at hl 4 rfl) ?_
        refine lv_iconst (v := nI 3) hx hb dL_isAllSo_57 (by first | rfl | decide) ?_
        refine m_callRI (val := κ.1.2.1 i 5 - κ.1.2.1 i 8) (As := [.int (nI i), .int (nI 3)]) (rest := [.int ((pasC (nI 0) κ.1 q).2.1 i 5 - (pasC (nI 0) κ.1 q).2.1 i 8)]) ⟨hx, hb, hml, hown, ht⟩ (q_ledger l g A M X hXS hCI hi (led_3 _ _)) (cwV 2 ht (gU uw_2018 uw_490 uw_491 uw_34 uw_492) rfl rfl rfl (by decide +kernel) ⟨Nat.le_of_ble_eq_true rfl, Nat.le_of_ble_eq_true rfl⟩) hK hM hS (m_recv hK hM hXS.ob.1 hXS.ob.2 rfl) rfl hl.1 rfl (Nat.le_of_ble_eq_true rfl) dL_isAllSo_58 ⟨Nat.le_of_ble_eq_true rfl, Nat.le_of_ble_eq_true rfl⟩ (fun H locs hM hS => ?_)
        refine lv_icmp_ne (tgt := 68) hx hb dL_isAllSo_61 (by decide) (fun c_61 => absurd (by rw [nI_ij (b := 0) (by omega) (by omega) c_51]; rfl) c_61) (fun c_61 => ?_)
        refine lv_iconst (v := nI 1) hx hb dL_isAllSo_64 (by first | rfl | decide) ?_
        refine lv_goto (tgt := 69) hx hb dL_isAllSo_65 (by decide) ?_
        subst hQ
        exact m_zret hx hb hr (rfl) hlk hK hM hS dL_isAllSo_69 (⟨rfl, κ, hXS, S.mono (by omega) (by omega) (by omega)⟩)
    · have hjn : j < n := nI_lt_of (by have := P.1; omega) (by have := P.1; omega) c_18
      refine lv_aload_n hx hb dL_isAllSo_21 rfl (lv_at hl 3 rfl) ?_
      refine lv_iload hx hb dL_isAllSo_22 (lv_at hl 0 rfl) ?_
      refine lv_iconst (v := nI 3) hx hb dL_isAllSo_24 (by first | rfl | decide) ?_
      refine m_callRI (val := κ.1.2.2 j 4) (As := [.int (nI j), .int (nI 3)]) (rest := []) ⟨hx, hb, hml, hown, ht⟩ (q_runner l g A M X hXS hCI hn P.1 hjn (rnr_3 _ _)) (cwV 2 ht (gU uw_489 uw_499 uw_500 uw_34 uw_501) rfl rfl rfl (by decide +kernel) ⟨Nat.le_of_ble_eq_true rfl, Nat.le_of_ble_eq_true rfl⟩) hK hM hS (m_recv hK hM hXS.ob.1 hXS.ob.2 rfl) rfl hl.1 rfl (Nat.le_of_ble_eq_true rfl) dL_isAllSo_25 ⟨Nat.le_of_ble_eq_true rfl, Nat.le_of_ble_eq_true rfl⟩ (fun H locs hM hS => ?_)
      refine lv_iload_n hx hb dL_isAllSo_28 rfl (lv_at hl 1 rfl) ?_
      refine lv_icmp_le (tgt := 42) hx hb dL_isAllSo_29 (by decide) (fun c_29 => ?_) (fun c_29 => ?_)
      · refine lv_iload_n hx hb dL_isAllSo_42 rfl (lv_at hl 1 rfl) ?_
        rw [lon_n c_29]
        refine lv_istore_n (lv' := [(3, .int (lonC κ.1 (j + 1))), (4, .int (nI j)), (2, .int ((pasC (nI 0) κ.1 q).2.1 i 5 - (pasC (nI 0) κ.1 q).2.1 i 8)), (0, .ref (X)), (1, .int (nI i))]) hx hb dL_isAllSo_43 rfl hl (by decide) rfl (fun ls hl => ?_)
        refine lv_iinc (v := nI (j + 1)) (lv' := [(4, .int (nI (j + 1))), (3, .int (lonC κ.1 (j + 1))), (2, .int ((pasC (nI 0) κ.1 q).2.1 i 5 - (pasC (nI 0) κ.1 q).2.1 i 8)), (0, .ref (X)), (1, .int (nI i))]) hx hb dL_isAllSo_44 hl (k := 1) rfl (nI_1 _) (by decide) rfl (fun ls hl => ?_)
        refine lv_goto (tgt := 11) hx hb dL_isAllSo_47 (by decide) ?_
        exact ih_11 (j + 1) _ _ _ (by omega) (by omega) hM hS (lv_sub hl [0, 1, 2, 3, 4] rfl)
      · refine lv_aload_n hx hb dL_isAllSo_32 rfl (lv_at hl 3 rfl) ?_
        refine lv_iload hx hb dL_isAllSo_33 (lv_at hl 0 rfl) ?_
        refine lv_iconst (v := nI 3) hx hb dL_isAllSo_35 (by first | rfl | decide) ?_
        refine m_callRI (val := κ.1.2.2 j 4) (As := [.int (nI j), .int (nI 3)]) (rest := []) ⟨hx, hb, hml, hown, ht⟩ (q_runner l g A M X hXS hCI hn P.1 hjn (rnr_3 _ _)) (cwV 2 ht (gU uw_489 uw_499 uw_500 uw_34 uw_501) rfl rfl rfl (by decide +kernel) ⟨Nat.le_of_ble_eq_true rfl, Nat.le_of_ble_eq_true rfl⟩) hK hM hS (m_recv hK hM hXS.ob.1 hXS.ob.2 rfl) rfl hl.1 rfl (Nat.le_of_ble_eq_true rfl) dL_isAllSo_36 ⟨Nat.le_of_ble_eq_true rfl, Nat.le_of_ble_eq_true rfl⟩ (fun H locs hM hS => ?_)
        refine lv_goto (tgt := 43) hx hb dL_isAllSo_39 (by decide) ?_
        rw [lon_y c_29]
        refine lv_istore_n (lv' := [(3, .int (lonC κ.1 (j + 1))), (4, .int (nI j)), (2, .int ((pasC (nI 0) κ.1 q).2.1 i 5 - (pasC (nI 0) κ.1 q).2.1 i 8)), (0, .ref (X)), (1, .int (nI i))]) hx hb dL_isAllSo_43 rfl hl (by decide) rfl (fun ls hl => ?_)
        refine lv_iinc (v := nI (j + 1)) (lv' := [(4, .int (nI (j + 1))), (3, .int (lonC κ.1 (j + 1))), (2, .int ((pasC (nI 0) κ.1 q).2.1 i 5 - (pasC (nI 0) κ.1 q).2.1 i 8)), (0, .ref (X)), (1, .int (nI i))]) hx hb dL_isAllSo_44 hl (k := 1) rfl (nI_1 _) (by decide) rfl (fun ls hl => ?_)
        refine lv_goto (tgt := 11) hx hb dL_isAllSo_47 (by decide) ?_
        exact ih_11 (j + 1) _ _ _ (by omega) (by omega) hM hS (lv_sub hl [0, 1, 2, 3, 4] rfl)
  exact loop_11 _ 0 _ _ _ (Nat.lt_succ_self _) (by omega) hM hS (lv_sub hl [0, 1, 2, 3, 4] rfl)
