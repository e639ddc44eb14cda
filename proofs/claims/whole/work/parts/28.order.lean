set_option maxHeartbeats 4000000 in
set_option maxRecDepth 100000 in
/-- order -/
theorem k_X8_order_f (l : Launch) (g : GG) (A : Nat → Prop) (M0 : MM) (Y : Nat) (σ : Nat → Int32) (ar : Nat → Nat → Int32) (ns : Nat → Int32) (hR : RepM g A M0 Y σ ar ns) (L q : Nat) (h1 : ns 1 = nI L) (hL : L ≤ 60) (h2 : ns 2 = nI q) (hq : q ≤ 60) (h3 : ns 3 = nI 0)  : Met l yX8_order (Uw yX8_order cX8_order 6 (Option.some ClassFile.FieldType.int)) (rmD 6) (PreM [.ref (Y), .int (nI 0)] g A M0) (PosI (fun r M1 => r = nI 0 ∧ ∃ ns1 w, RepM g A M1 Y σ ar ns1 ∧ FrM Y M0 M1 ∧ NSs ns ns1 (ordC (ar 5) L q).2.1 w ∧ ordF (ar 5) L q w) g A) 0 0 A := by
  refine mk_Met (own := RX8) rfl rfl (by decide) (Nat.le_of_ble_eq_true rfl) ?_
  intro p e s m below meth c ls aa Q haa hQ hx hb hr hlk hml hown hts hK hM hS hl hnm
  obtain ⟨M, hMM⟩ : ∃ M, M = M0 := ⟨_, rfl⟩
  rw [← hMM] at hM hR
  have ht : ∀ w ∈ lw_good, w.before _ s = true := fun w h => hts w (List.mem_cons_of_mem _ h)
  have hF : FrM Y M0 M := by rw [hMM]; exact FrM.rf
  have hl : lv_has ls 6 [(0, .ref (Y)), (1, .int (nI 0))] := hl
  have n0 : ns 0 = ns 0 := rfl
  have n1 := h1
  have n2 := h2
  have n3 := h3
  by_cases hqL : q < L
  · have es : sgC (ar 5) L q = ar 5 q := if_pos hqL
    refine lv_aload_n hx hb dX8_order_0 rfl (lv_at hl 0 rfl) ?_
    refine rm_getN2 hx hb ht ui_X8 hown hK hM hR (ht _ uw_602) dX8_order_1 ?_
    rw [n2]
    refine lv_aload_n hx hb dX8_order_4 rfl (lv_at hl 0 rfl) ?_
    refine rm_getN1 hx hb ht ui_X8 hown hK hM hR (ht _ uw_601) dX8_order_5 ?_
    rw [n1]
    refine lv_icmp_ge (tgt := 88) hx hb dX8_order_8 (by decide) (fun c_8 => absurd c_8 (nI_ge hqL (by omega))) (fun c_8 => ?_)
    refine lv_aload_n hx hb dX8_order_11 rfl (lv_at hl 0 rfl) ?_
    refine rm_getA5 hx hb ht ui_X8 hown hK hM hR (ht _ uw_600) dX8_order_12 ?_
    refine lv_aload_n hx hb dX8_order_15 rfl (lv_at hl 0 rfl) ?_
    refine rm_getN2 hx hb ht ui_X8 hown hK hM hR (ht _ uw_602) dX8_order_16 ?_
    rw [n2]
    refine rm_aald hx hb hK hM hR 5 (by decide) (by decide) (by decide) (i := q) (show q < 60 by omega) dX8_order_19 ?_
    refine lv_bipush (v := nI 114) hx hb dX8_order_20 (by first | rfl | decide) ?_
    refine lv_icmp_ne (tgt := 88) hx hb dX8_order_22 (by decide) (fun c_22 => ?_) (fun c_22 => ?_)
    · by_cases hD : winC (sgC (ar 5) L q) (nI 115) (nI 115) = 0
      · refine lv_aload_n hx hb dX8_order_88 rfl (lv_at hl 0 rfl) ?_
        refine lv_bipush (v := nI 115) hx hb dX8_order_89 (by first | rfl | decide) ?_
        refine lv_bipush (v := nI 115) hx hb dX8_order_91 (by first | rfl | decide) ?_
        refine m_callI (As := [.int (nI 115), .int (nI 115)]) (rest := []) ⟨hx, hb, hml, hown, ht⟩ (k_X8_sign_bad l g A M Y σ ar ns hR L q n1 hL n2 (by omega) (nI 115) (nI 115) (Or.inr (Or.inr (hD)))) (cwV 2 ht (gU uw_726 uw_728 uw_26 uw_42 uw_729) rfl rfl rfl (by decide +kernel) ⟨by decide, by decide⟩) hK hM hS (m_recv hK hM (hR.1 Y (by omega) (by omega)) hR.2.1 rfl) rfl hl.1 rfl (Nat.le_of_ble_eq_true rfl) dX8_order_93 ⟨by decide, by decide⟩ (fun rD M H locs hp hM hS => ?_)
        obtain ⟨e_rD, nsq, hR, hF1, m0, m1, m2, m3⟩ := hp
        have hF := hF.tr hF1
        have n0 := m0.trans n0
        have n1 := m1.trans n1
        have n2 := m2
        have n3 := m3
        refine lv_istore_n (lv' := [(2, .int (rD)), (0, .ref (Y)), (1, .int (nI 0))]) hx hb dX8_order_96 rfl hl (by decide) rfl (fun ls hl => ?_)
        skip
        · refine lv_aload_n hx hb dX8_order_97 rfl (lv_at hl 1 rfl) ?_
          refine lv_bipush (v := nI 48) hx hb dX8_order_98 (by first | rfl | decide) ?_
          refine lv_bipush (v := nI 53) hx hb dX8_order_100 (by first | rfl | decide) ?_
          refine m_callI (As := [.int (nI 48), .int (nI 53)]) (rest := []) ⟨hx, hb, hml, hown, ht⟩ (k_X8_sign_bad l g A M Y σ ar nsq hR L q n1 hL n2 (by omega) (nI 48) (nI 53) (Or.inl (by rw [n3]; decide))) (cwV 2 ht (gU uw_726 uw_728 uw_26 uw_42 uw_729) rfl rfl rfl (by decide +kernel) ⟨by decide, by decide⟩) hK hM hS (m_recv hK hM (hR.1 Y (by omega) (by omega)) hR.2.1 rfl) rfl hl.1 rfl (Nat.le_of_ble_eq_true rfl) dX8_order_102 ⟨by decide, by decide⟩ (fun rE M H locs hp hM hS => ?_)
          obtain ⟨e_rE, nsq, hR, hF1, m0, m1, m2, m3⟩ := hp
          have hF := hF.tr hF1
          have n0 := m0.trans n0
          have n1 := m1.trans n1
          have n2 := m2
          have n3 := m3
          refine lv_bipush (v := nI 48) hx hb dX8_order_105 (by first | rfl | decide) ?_
          refine lv_isub hx hb dX8_order_107 ?_
          refine lv_istore_n (lv' := [(3, .int ((rE) - (nI 48))), (2, .int (rD)), (0, .ref (Y)), (1, .int (nI 0))]) hx hb dX8_order_108 rfl hl (by decide) rfl (fun ls hl => ?_)
          refine lv_iload_n hx hb dX8_order_109 rfl (lv_at hl 3 rfl) ?_
          refine lv_if_eq (tgt := 125) hx hb dX8_order_110 (by decide) (fun c_110 => ?_) (fun c_110 => absurd (rfl) c_110)
          refine lv_iconst (v := nI 0) hx hb dX8_order_125 (by first | rfl | decide) ?_
          subst hQ
          exact m_zret hx hb hr (rfl) hlk hK hM hS dX8_order_126 (by
              obtain ⟨k1, k2⟩ := of_G (fun z => c_22 (es.symm.trans z)) (win_ne hD)
              rw [k2]
              exact ⟨rfl, _, _, hR, hF, ⟨n0, n1.trans h1.symm, n2, n3⟩, ordF_bad k1⟩)
      · refine lv_aload_n hx hb dX8_order_88 rfl (lv_at hl 0 rfl) ?_
        refine lv_bipush (v := nI 115) hx hb dX8_order_89 (by first | rfl | decide) ?_
        refine lv_bipush (v := nI 115) hx hb dX8_order_91 (by first | rfl | decide) ?_
        refine m_callI (As := [.int (nI 115), .int (nI 115)]) (rest := []) ⟨hx, hb, hml, hown, ht⟩ (k_X8_sign_ok l g A M Y σ ar ns hR L q n1 hL n2 (sg_lt (by omega) (by omega) (hD)) n3 (nI 115) (nI 115) (hD)) (cwV 2 ht (gU uw_726 uw_728 uw_26 uw_42 uw_729) rfl rfl rfl (by decide +kernel) ⟨by decide, by decide⟩) hK hM hS (m_recv hK hM (hR.1 Y (by omega) (by omega)) hR.2.1 rfl) rfl hl.1 rfl (Nat.le_of_ble_eq_true rfl) dX8_order_93 ⟨by decide, by decide⟩ (fun rD M H locs hp hM hS => ?_)
        obtain ⟨e_rD, nsq, hR, hF1, m0, m1, m2, m3⟩ := hp
        have hF := hF.tr hF1
        have n0 := m0.trans n0
        have n1 := m1.trans n1
        have n2 := m2
        have n3 := m3
        refine lv_istore_n (lv' := [(2, .int (rD)), (0, .ref (Y)), (1, .int (nI 0))]) hx hb dX8_order_96 rfl hl (by decide) rfl (fun ls hl => ?_)
        by_cases hE : winC (sgC (ar 5) L (q + 1)) (nI 48) (nI 53) = 0
        · refine lv_aload_n hx hb dX8_order_97 rfl (lv_at hl 1 rfl) ?_
          refine lv_bipush (v := nI 48) hx hb dX8_order_98 (by first | rfl | decide) ?_
          refine lv_bipush (v := nI 53) hx hb dX8_order_100 (by first | rfl | decide) ?_
          refine m_callI (As := [.int (nI 48), .int (nI 53)]) (rest := []) ⟨hx, hb, hml, hown, ht⟩ (k_X8_sign_bad l g A M Y σ ar nsq hR L (q + 1) n1 hL n2 (by omega) (nI 48) (nI 53) (Or.inr (Or.inr (hE)))) (cwV 2 ht (gU uw_726 uw_728 uw_26 uw_42 uw_729) rfl rfl rfl (by decide +kernel) ⟨by decide, by decide⟩) hK hM hS (m_recv hK hM (hR.1 Y (by omega) (by omega)) hR.2.1 rfl) rfl hl.1 rfl (Nat.le_of_ble_eq_true rfl) dX8_order_102 ⟨by decide, by decide⟩ (fun rE M H locs hp hM hS => ?_)
          obtain ⟨e_rE, nsq, hR, hF1, m0, m1, m2, m3⟩ := hp
          have hF := hF.tr hF1
          have n0 := m0.trans n0
          have n1 := m1.trans n1
          have n2 := m2
          have n3 := m3
          refine lv_bipush (v := nI 48) hx hb dX8_order_105 (by first | rfl | decide) ?_
          refine lv_isub hx hb dX8_order_107 ?_
          refine lv_istore_n (lv' := [(3, .int ((rE) - (nI 48))), (2, .int (rD)), (0, .ref (Y)), (1, .int (nI 0))]) hx hb dX8_order_108 rfl hl (by decide) rfl (fun ls hl => ?_)
          refine lv_iload_n hx hb dX8_order_109 rfl (lv_at hl 3 rfl) ?_
          refine lv_if_eq (tgt := 125) hx hb dX8_order_110 (by decide) (fun c_110 => ?_) (fun c_110 => absurd (rfl) c_110)
          refine lv_iconst (v := nI 0) hx hb dX8_order_125 (by first | rfl | decide) ?_
          subst hQ
          exact m_zret hx hb hr (rfl) hlk hK hM hS dX8_order_126 (by
              obtain ⟨k1, k2⟩ := of_E (win_eq hD) hE
              rw [k2]
              exact ⟨rfl, _, _, hR, hF, ⟨n0, n1.trans h1.symm, n2, n3⟩, ordF_bad k1⟩)
        · refine lv_aload_n hx hb dX8_order_97 rfl (lv_at hl 1 rfl) ?_
          refine lv_bipush (v := nI 48) hx hb dX8_order_98 (by first | rfl | decide) ?_
          refine lv_bipush (v := nI 53) hx hb dX8_order_100 (by first | rfl | decide) ?_
          refine m_callI (As := [.int (nI 48), .int (nI 53)]) (rest := []) ⟨hx, hb, hml, hown, ht⟩ (k_X8_sign_ok l g A M Y σ ar nsq hR L (q + 1) n1 hL n2 (sg_lt (by omega) (by omega) (hE)) n3 (nI 48) (nI 53) (hE)) (cwV 2 ht (gU uw_726 uw_728 uw_26 uw_42 uw_729) rfl rfl rfl (by decide +kernel) ⟨by decide, by decide⟩) hK hM hS (m_recv hK hM (hR.1 Y (by omega) (by omega)) hR.2.1 rfl) rfl hl.1 rfl (Nat.le_of_ble_eq_true rfl) dX8_order_102 ⟨by decide, by decide⟩ (fun rE M H locs hp hM hS => ?_)
          obtain ⟨e_rE, nsq, hR, hF1, m0, m1, m2, m3⟩ := hp
          have hF := hF.tr hF1
          have n0 := m0.trans n0
          have n1 := m1.trans n1
          have n2 := m2
          have n3 := m3
          refine lv_bipush (v := nI 48) hx hb dX8_order_105 (by first | rfl | decide) ?_
          refine lv_isub hx hb dX8_order_107 ?_
          refine lv_istore_n (lv' := [(3, .int ((rE) - (nI 48))), (2, .int (rD)), (0, .ref (Y)), (1, .int (nI 0))]) hx hb dX8_order_108 rfl hl (by decide) rfl (fun ls hl => ?_)
          refine lv_iload_n hx hb dX8_order_109 rfl (lv_at hl 3 rfl) ?_
          refine lv_if_eq (tgt := 125) hx hb dX8_order_110 (by decide) (fun c_110 => ?_) (fun c_110 => absurd (rfl) c_110)
          refine lv_iconst (v := nI 0) hx hb dX8_order_125 (by first | rfl | decide) ?_
          subst hQ
          exact m_zret hx hb hr (rfl) hlk hK hM hS dX8_order_126 (by
              obtain ⟨k1, k2, k3⟩ := of_F (win_eq hD) hE
              rw [k1]
              exact ⟨rfl, _, _, hR, hF, ⟨n0, n1.trans h1.symm, n2, n3⟩, k2⟩)
    · refine lv_aload_n hx hb dX8_order_25 rfl (lv_at hl 0 rfl) ?_
      refine lv_dup hx hb dX8_order_26 rfl ?_
      refine rm_getN2 hx hb ht ui_X8 hown hK hM hR (ht _ uw_602) dX8_order_27 ?_
      rw [n2]
      refine lv_iconst (v := nI 1) hx hb dX8_order_30 (by first | rfl | decide) ?_
      refine lv_iadd hx hb dX8_order_31 ?_
      rw [nI_add (q) (1)]
      refine rm_putN2 hx hb ht ui_X8 hown hK hM hS hR hF (ht _ uw_602) dX8_order_32 (fun M H locs hM hR hF hS => ?_)
      obtain ⟨nsq, enq⟩ : ∃ n1, n1 = (va_up ns 2 (nI (q + 1))) := ⟨_, rfl⟩
      rw [← enq] at hR
      have n0 : nsq 0 = ns 0 := by rw [enq]; exact n0
      have n1 : nsq 1 = nI L := by rw [enq]; exact n1
      have n3 : nsq 3 = nI 0 := by rw [enq]; exact n3
      have n2 : nsq 2 = nI (q + 1) := by rw [enq]; rfl
      by_cases hA : winC (sgC (ar 5) L (q + 1)) (nI (48 + 0)) (nI 57) = 0
      · refine lv_aload_n hx hb dX8_order_35 rfl (lv_at hl 0 rfl) ?_
        refine lv_iconst (v := nI 0) hx hb dX8_order_36 (by first | rfl | decide) ?_
        refine lv_bipush (v := nI 99) hx hb dX8_order_37 (by first | rfl | decide) ?_
        refine m_callI (As := [.int (nI 0), .int (nI 99)]) (rest := []) ⟨hx, hb, hml, hown, ht⟩ (k_X8_number_bad l g A M Y σ ar nsq hR L (q + 1) n1 hL n2 (by omega) 0 (by omega) (nI 99) (Or.inr (hA))) (cwV 2 ht (gU uw_722 uw_724 uw_25 uw_42 uw_725) rfl rfl rfl (by decide +kernel) ⟨by decide, by decide⟩) hK hM hS (m_recv hK hM (hR.1 Y (by omega) (by omega)) hR.2.1 rfl) rfl hl.1 rfl (Nat.le_of_ble_eq_true rfl) dX8_order_39 ⟨by decide, by decide⟩ (fun rA M H locs hp hM hS => ?_)
        obtain ⟨e_rA, nsq, hR, hF1, m0, m1, m2, m3⟩ := hp
        have hF := hF.tr hF1
        have n0 := m0.trans n0
        have n1 := m1.trans n1
        have n2 := m2
        have n3 := m3
        refine lv_istore_n (lv' := [(2, .int (rA)), (0, .ref (Y)), (1, .int (nI 0))]) hx hb dX8_order_42 rfl hl (by decide) rfl (fun ls hl => ?_)
        skip
        · refine lv_aload_n hx hb dX8_order_43 rfl (lv_at hl 1 rfl) ?_
          refine lv_bipush (v := nI 104) hx hb dX8_order_44 (by first | rfl | decide) ?_
          refine lv_bipush (v := nI 104) hx hb dX8_order_46 (by first | rfl | decide) ?_
          refine m_callI (As := [.int (nI 104), .int (nI 104)]) (rest := []) ⟨hx, hb, hml, hown, ht⟩ (k_X8_sign_bad l g A M Y σ ar nsq hR L (q + 1) n1 hL n2 (by omega) (nI 104) (nI 104) (Or.inl (by rw [n3]; decide))) (cwV 2 ht (gU uw_726 uw_728 uw_26 uw_42 uw_729) rfl rfl rfl (by decide +kernel) ⟨by decide, by decide⟩) hK hM hS (m_recv hK hM (hR.1 Y (by omega) (by omega)) hR.2.1 rfl) rfl hl.1 rfl (Nat.le_of_ble_eq_true rfl) dX8_order_48 ⟨by decide, by decide⟩ (fun rB M H locs hp hM hS => ?_)
          obtain ⟨e_rB, nsq, hR, hF1, m0, m1, m2, m3⟩ := hp
          have hF := hF.tr hF1
          have n0 := m0.trans n0
          have n1 := m1.trans n1
          have n2 := m2
          have n3 := m3
          refine lv_istore_n (lv' := [(3, .int (rB)), (2, .int (rA)), (0, .ref (Y)), (1, .int (nI 0))]) hx hb dX8_order_51 rfl hl (by decide) rfl (fun ls hl => ?_)
          skip
          · refine lv_aload_n hx hb dX8_order_52 rfl (lv_at hl 2 rfl) ?_
            refine lv_iconst (v := nI 1) hx hb dX8_order_53 (by first | rfl | decide) ?_
            refine lv_bipush (v := nI 24) hx hb dX8_order_54 (by first | rfl | decide) ?_
            refine m_callI (As := [.int (nI 1), .int (nI 24)]) (rest := []) ⟨hx, hb, hml, hown, ht⟩ (k_X8_number_bad l g A M Y σ ar nsq hR L (q + 1) n1 hL n2 (by omega) 1 (by omega) (nI 24) (Or.inl (by rw [n3]; decide))) (cwV 2 ht (gU uw_722 uw_724 uw_25 uw_42 uw_725) rfl rfl rfl (by decide +kernel) ⟨by decide, by decide⟩) hK hM hS (m_recv hK hM (hR.1 Y (by omega) (by omega)) hR.2.1 rfl) rfl hl.1 rfl (Nat.le_of_ble_eq_true rfl) dX8_order_56 ⟨by decide, by decide⟩ (fun rC M H locs hp hM hS => ?_)
            obtain ⟨e_rC, nsq, hR, hF1, m0, m1, m2, m3⟩ := hp
            have hF := hF.tr hF1
            have n0 := m0.trans n0
            have n1 := m1.trans n1
            have n2 := m2
            have n3 := m3
            refine lv_istore (lv' := [(4, .int (rC)), (3, .int (rB)), (2, .int (rA)), (0, .ref (Y)), (1, .int (nI 0))]) hx hb dX8_order_59 hl (by decide) rfl (fun ls hl => ?_)
            refine lv_iload_n hx hb dX8_order_61 rfl (lv_at hl 4 rfl) ?_
            refine lv_if_eq (tgt := 75) hx hb dX8_order_62 (by decide) (fun c_62 => ?_) (fun c_62 => absurd (rfl) c_62)
            refine lv_iconst (v := nI 0) hx hb dX8_order_75 (by first | rfl | decide) ?_
            subst hQ
            exact m_zret hx hb hr (rfl) hlk hK hM hS dX8_order_76 (by
                obtain ⟨k1, k2⟩ := of_A (es.trans c_22) hA
                rw [k2]
                exact ⟨rfl, _, _, hR, hF, ⟨n0, n1.trans h1.symm, n2, n3⟩, ordF_bad k1⟩)
      · refine lv_aload_n hx hb dX8_order_35 rfl (lv_at hl 0 rfl) ?_
        refine lv_iconst (v := nI 0) hx hb dX8_order_36 (by first | rfl | decide) ?_
        refine lv_bipush (v := nI 99) hx hb dX8_order_37 (by first | rfl | decide) ?_
        refine m_callI (As := [.int (nI 0), .int (nI 99)]) (rest := []) ⟨hx, hb, hml, hown, ht⟩ (k_X8_number_ok l g A M Y σ ar nsq hR L (q + 1) n1 hL n2 (sg_lt (by omega) (by omega) (hA)) n3 0 (by omega) (nI 99) (nI_le (by omega) (by omega)) (hA)) (cwV 2 ht (gU uw_722 uw_724 uw_25 uw_42 uw_725) rfl rfl rfl (by decide +kernel) ⟨by decide, by decide⟩) hK hM hS (m_recv hK hM (hR.1 Y (by omega) (by omega)) hR.2.1 rfl) rfl hl.1 rfl (Nat.le_of_ble_eq_true rfl) dX8_order_39 ⟨by decide, by decide⟩ (fun rA M H locs hp hM hS => ?_)
        obtain ⟨e_rA, nsq, hR, hF1, m0, m1, m2, m3⟩ := hp
        have hF := hF.tr hF1
        have n0 := m0.trans n0
        have n1 := m1.trans n1
        have n2 := m2
        have n3 := m3
        refine lv_istore_n (lv' := [(2, .int (rA)), (0, .ref (Y)), (1, .int (nI 0))]) hx hb dX8_order_42 rfl hl (by decide) rfl (fun ls hl => ?_)
        have hpa : pA (ar 5) L q ≤ q + 1 + 2 ∧ q + 1 + 1 ≤ pA (ar 5) L q := nuM_q (ar 5) L (q + 1) (nI 99)
        by_cases hB : winC (sgC (ar 5) L (pA (ar 5) L q)) (nI 104) (nI 104) = 0
        · refine lv_aload_n hx hb dX8_order_43 rfl (lv_at hl 1 rfl) ?_
          refine lv_bipush (v := nI 104) hx hb dX8_order_44 (by first | rfl | decide) ?_
          refine lv_bipush (v := nI 104) hx hb dX8_order_46 (by first | rfl | decide) ?_
          refine m_callI (As := [.int (nI 104), .int (nI 104)]) (rest := []) ⟨hx, hb, hml, hown, ht⟩ (k_X8_sign_bad l g A M Y σ ar nsq hR L (pA (ar 5) L q) n1 hL n2 (by omega) (nI 104) (nI 104) (Or.inr (Or.inr (hB)))) (cwV 2 ht (gU uw_726 uw_728 uw_26 uw_42 uw_729) rfl rfl rfl (by decide +kernel) ⟨by decide, by decide⟩) hK hM hS (m_recv hK hM (hR.1 Y (by omega) (by omega)) hR.2.1 rfl) rfl hl.1 rfl (Nat.le_of_ble_eq_true rfl) dX8_order_48 ⟨by decide, by decide⟩ (fun rB M H locs hp hM hS => ?_)
          obtain ⟨e_rB, nsq, hR, hF1, m0, m1, m2, m3⟩ := hp
          have hF := hF.tr hF1
          have n0 := m0.trans n0
          have n1 := m1.trans n1
          have n2 := m2
          have n3 := m3
          refine lv_istore_n (lv' := [(3, .int (rB)), (2, .int (rA)), (0, .ref (Y)), (1, .int (nI 0))]) hx hb dX8_order_51 rfl hl (by decide) rfl (fun ls hl => ?_)
          skip
          · refine lv_aload_n hx hb dX8_order_52 rfl (lv_at hl 2 rfl) ?_
            refine lv_iconst (v := nI 1) hx hb dX8_order_53 (by first | rfl | decide) ?_
            refine lv_bipush (v := nI 24) hx hb dX8_order_54 (by first | rfl | decide) ?_
            refine m_callI (As := [.int (nI 1), .int (nI 24)]) (rest := []) ⟨hx, hb, hml, hown, ht⟩ (k_X8_number_bad l g A M Y σ ar nsq hR L (pA (ar 5) L q) n1 hL n2 (by omega) 1 (by omega) (nI 24) (Or.inl (by rw [n3]; decide))) (cwV 2 ht (gU uw_722 uw_724 uw_25 uw_42 uw_725) rfl rfl rfl (by decide +kernel) ⟨by decide, by decide⟩) hK hM hS (m_recv hK hM (hR.1 Y (by omega) (by omega)) hR.2.1 rfl) rfl hl.1 rfl (Nat.le_of_ble_eq_true rfl) dX8_order_56 ⟨by decide, by decide⟩ (fun rC M H locs hp hM hS => ?_)
            obtain ⟨e_rC, nsq, hR, hF1, m0, m1, m2, m3⟩ := hp
            have hF := hF.tr hF1
            have n0 := m0.trans n0
            have n1 := m1.trans n1
            have n2 := m2
            have n3 := m3
            refine lv_istore (lv' := [(4, .int (rC)), (3, .int (rB)), (2, .int (rA)), (0, .ref (Y)), (1, .int (nI 0))]) hx hb dX8_order_59 hl (by decide) rfl (fun ls hl => ?_)
            refine lv_iload_n hx hb dX8_order_61 rfl (lv_at hl 4 rfl) ?_
            refine lv_if_eq (tgt := 75) hx hb dX8_order_62 (by decide) (fun c_62 => ?_) (fun c_62 => absurd (rfl) c_62)
            refine lv_iconst (v := nI 0) hx hb dX8_order_75 (by first | rfl | decide) ?_
            subst hQ
            exact m_zret hx hb hr (rfl) hlk hK hM hS dX8_order_76 (by
                obtain ⟨k1, k2⟩ := of_B (es.trans c_22) hA hB
                rw [k2]
                exact ⟨rfl, _, _, hR, hF, ⟨n0, n1.trans h1.symm, n2, n3⟩, ordF_bad k1⟩)
        · refine lv_aload_n hx hb dX8_order_43 rfl (lv_at hl 1 rfl) ?_
          refine lv_bipush (v := nI 104) hx hb dX8_order_44 (by first | rfl | decide) ?_
          refine lv_bipush (v := nI 104) hx hb dX8_order_46 (by first | rfl | decide) ?_
          refine m_callI (As := [.int (nI 104), .int (nI 104)]) (rest := []) ⟨hx, hb, hml, hown, ht⟩ (k_X8_sign_ok l g A M Y σ ar nsq hR L (pA (ar 5) L q) n1 hL n2 (sg_lt (by omega) (by omega) (hB)) n3 (nI 104) (nI 104) (hB)) (cwV 2 ht (gU uw_726 uw_728 uw_26 uw_42 uw_729) rfl rfl rfl (by decide +kernel) ⟨by decide, by decide⟩) hK hM hS (m_recv hK hM (hR.1 Y (by omega) (by omega)) hR.2.1 rfl) rfl hl.1 rfl (Nat.le_of_ble_eq_true rfl) dX8_order_48 ⟨by decide, by decide⟩ (fun rB M H locs hp hM hS => ?_)
          obtain ⟨e_rB, nsq, hR, hF1, m0, m1, m2, m3⟩ := hp
          have hF := hF.tr hF1
          have n0 := m0.trans n0
          have n1 := m1.trans n1
          have n2 := m2
          have n3 := m3
          refine lv_istore_n (lv' := [(3, .int (rB)), (2, .int (rA)), (0, .ref (Y)), (1, .int (nI 0))]) hx hb dX8_order_51 rfl hl (by decide) rfl (fun ls hl => ?_)
          by_cases hC : winC (sgC (ar 5) L (pA (ar 5) L q + 1)) (nI (48 + 1)) (nI 57) = 0
          · refine lv_aload_n hx hb dX8_order_52 rfl (lv_at hl 2 rfl) ?_
            refine lv_iconst (v := nI 1) hx hb dX8_order_53 (by first | rfl | decide) ?_
            refine lv_bipush (v := nI 24) hx hb dX8_order_54 (by first | rfl | decide) ?_
            refine m_callI (As := [.int (nI 1), .int (nI 24)]) (rest := []) ⟨hx, hb, hml, hown, ht⟩ (k_X8_number_bad l g A M Y σ ar nsq hR L ((pA (ar 5) L q) + 1) n1 hL n2 (by omega) 1 (by omega) (nI 24) (Or.inr (hC))) (cwV 2 ht (gU uw_722 uw_724 uw_25 uw_42 uw_725) rfl rfl rfl (by decide +kernel) ⟨by decide, by decide⟩) hK hM hS (m_recv hK hM (hR.1 Y (by omega) (by omega)) hR.2.1 rfl) rfl hl.1 rfl (Nat.le_of_ble_eq_true rfl) dX8_order_56 ⟨by decide, by decide⟩ (fun rC M H locs hp hM hS => ?_)
            obtain ⟨e_rC, nsq, hR, hF1, m0, m1, m2, m3⟩ := hp
            have hF := hF.tr hF1
            have n0 := m0.trans n0
            have n1 := m1.trans n1
            have n2 := m2
            have n3 := m3
            refine lv_istore (lv' := [(4, .int (rC)), (3, .int (rB)), (2, .int (rA)), (0, .ref (Y)), (1, .int (nI 0))]) hx hb dX8_order_59 hl (by decide) rfl (fun ls hl => ?_)
            refine lv_iload_n hx hb dX8_order_61 rfl (lv_at hl 4 rfl) ?_
            refine lv_if_eq (tgt := 75) hx hb dX8_order_62 (by decide) (fun c_62 => ?_) (fun c_62 => absurd (rfl) c_62)
            refine lv_iconst (v := nI 0) hx hb dX8_order_75 (by first | rfl | decide) ?_
            subst hQ
            exact m_zret hx hb hr (rfl) hlk hK hM hS dX8_order_76 (by
                obtain ⟨k1, k2⟩ := of_C (es.trans c_22) hA hB hC
                rw [k2]
                exact ⟨rfl, _, _, hR, hF, ⟨n0, n1.trans h1.symm, n2, n3⟩, ordF_bad k1⟩)
          · refine lv_aload_n hx hb dX8_order_52 rfl (lv_at hl 2 rfl) ?_
            refine lv_iconst (v := nI 1) hx hb dX8_order_53 (by first | rfl | decide) ?_
            refine lv_bipush (v := nI 24) hx hb dX8_order_54 (by first | rfl | decide) ?_
            refine m_callI (As := [.int (nI 1), .int (nI 24)]) (rest := []) ⟨hx, hb, hml, hown, ht⟩ (k_X8_number_ok l g A M Y σ ar nsq hR L ((pA (ar 5) L q) + 1) n1 hL n2 (sg_lt (by omega) (by omega) (hC)) n3 1 (by omega) (nI 24) (nI_le (by omega) (by omega)) (hC)) (cwV 2 ht (gU uw_722 uw_724 uw_25 uw_42 uw_725) rfl rfl rfl (by decide +kernel) ⟨by decide, by decide⟩) hK hM hS (m_recv hK hM (hR.1 Y (by omega) (by omega)) hR.2.1 rfl) rfl hl.1 rfl (Nat.le_of_ble_eq_true rfl) dX8_order_56 ⟨by decide, by decide⟩ (fun rC M H locs hp hM hS => ?_)
            obtain ⟨e_rC, nsq, hR, hF1, m0, m1, m2, m3⟩ := hp
            have hF := hF.tr hF1
            have n0 := m0.trans n0
            have n1 := m1.trans n1
            have n2 := m2
            have n3 := m3
            refine lv_istore (lv' := [(4, .int (rC)), (3, .int (rB)), (2, .int (rA)), (0, .ref (Y)), (1, .int (nI 0))]) hx hb dX8_order_59 hl (by decide) rfl (fun ls hl => ?_)
            refine lv_iload_n hx hb dX8_order_61 rfl (lv_at hl 4 rfl) ?_
            refine lv_if_eq (tgt := 75) hx hb dX8_order_62 (by decide) (fun c_62 => ?_) (fun c_62 => absurd (rfl) c_62)
            refine lv_iconst (v := nI 0) hx hb dX8_order_75 (by first | rfl | decide) ?_
            subst hQ
            exact m_zret hx hb hr (rfl) hlk hK hM hS dX8_order_76 (by
                obtain ⟨k1, k2, k3⟩ := of_D (es.trans c_22) hA hB hC
                rw [k1]
                exact ⟨rfl, _, _, hR, hF, ⟨n0, n1.trans h1.symm, n2, n3⟩, k2⟩)
  · have es : sgC (ar 5) L q = 0 := if_neg hqL
    refine lv_aload_n hx hb dX8_order_0 rfl (lv_at hl 0 rfl) ?_
    refine rm_getN2 hx hb ht ui_X8 hown hK hM hR (ht _ uw_602) dX8_order_1 ?_
    rw [n2]
    refine lv_aload_n hx hb dX8_order_4 rfl (lv_at hl 0 rfl) ?_
    refine rm_getN1 hx hb ht ui_X8 hown hK hM hR (ht _ uw_601) dX8_order_5 ?_
    rw [n1]
    refine lv_icmp_ge (tgt := 88) hx hb dX8_order_8 (by decide) (fun c_8 => ?_) (fun c_8 => absurd ((nI_leI (by omega) (by omega)).mpr (by omega)) c_8)
    by_cases hD : winC (sgC (ar 5) L q) (nI 115) (nI 115) = 0
    · refine lv_aload_n hx hb dX8_order_88 rfl (lv_at hl 0 rfl) ?_
      refine lv_bipush (v := nI 115) hx hb dX8_order_89 (by first | rfl | decide) ?_
      refine lv_bipush (v := nI 115) hx hb dX8_order_91 (by first | rfl | decide) ?_
      refine m_callI (As := [.int (nI 115), .int (nI 115)]) (rest := []) ⟨hx, hb, hml, hown, ht⟩ (k_X8_sign_bad l g A M Y σ ar ns hR L q n1 hL n2 (by omega) (nI 115) (nI 115) (Or.inr (Or.inr (hD)))) (cwV 2 ht (gU uw_726 uw_728 uw_26 uw_42 uw_729) rfl rfl rfl (by decide +kernel) ⟨by decide, by decide⟩) hK hM hS (m_recv hK hM (hR.1 Y (by omega) (by omega)) hR.2.1 rfl) rfl hl.1 rfl (Nat.le_of_ble_eq_true rfl) dX8_order_93 ⟨by decide, by decide⟩ (fun rD M H locs hp hM hS => ?_)
      obtain ⟨e_rD, nsq, hR, hF1, m0, m1, m2, m3⟩ := hp
      have hF := hF.tr hF1
      have n0 := m0.trans n0
      have n1 := m1.trans n1
      have n2 := m2
      have n3 := m3
      refine lv_istore_n (lv' := [(2, .int (rD)), (0, .ref (Y)), (1, .int (nI 0))]) hx hb dX8_order_96 rfl hl (by decide) rfl (fun ls hl => ?_)
      skip
      · refine lv_aload_n hx hb dX8_order_97 rfl (lv_at hl 1 rfl) ?_
        refine lv_bipush (v := nI 48) hx hb dX8_order_98 (by first | rfl | decide) ?_
        refine lv_bipush (v := nI 53) hx hb dX8_order_100 (by first | rfl | decide) ?_
        refine m_callI (As := [.int (nI 48), .int (nI 53)]) (rest := []) ⟨hx, hb, hml, hown, ht⟩ (k_X8_sign_bad l g A M Y σ ar nsq hR L q n1 hL n2 (by omega) (nI 48) (nI 53) (Or.inl (by rw [n3]; decide))) (cwV 2 ht (gU uw_726 uw_728 uw_26 uw_42 uw_729) rfl rfl rfl (by decide +kernel) ⟨by decide, by decide⟩) hK hM hS (m_recv hK hM (hR.1 Y (by omega) (by omega)) hR.2.1 rfl) rfl hl.1 rfl (Nat.le_of_ble_eq_true rfl) dX8_order_102 ⟨by decide, by decide⟩ (fun rE M H locs hp hM hS => ?_)
        obtain ⟨e_rE, nsq, hR, hF1, m0, m1, m2, m3⟩ := hp
        have hF := hF.tr hF1
        have n0 := m0.trans n0
        have n1 := m1.trans n1
        have n2 := m2
        have n3 := m3
        refine lv_bipush (v := nI 48) hx hb dX8_order_105 (by first | rfl | decide) ?_
        refine lv_isub hx hb dX8_order_107 ?_
        refine lv_istore_n (lv' := [(3, .int ((rE) - (nI 48))), (2, .int (rD)), (0, .ref (Y)), (1, .int (nI 0))]) hx hb dX8_order_108 rfl hl (by decide) rfl (fun ls hl => ?_)
        refine lv_iload_n hx hb dX8_order_109 rfl (lv_at hl 3 rfl) ?_
        refine lv_if_eq (tgt := 125) hx hb dX8_order_110 (by decide) (fun c_110 => ?_) (fun c_110 => absurd (rfl) c_110)
        refine lv_iconst (v := nI 0) hx hb dX8_order_125 (by first | rfl | decide) ?_
        subst hQ
        exact m_zret hx hb hr (rfl) hlk hK hM hS dX8_order_126 (by
            obtain ⟨k1, k2⟩ := of_G (fun z => absurd (es.symm.trans z) (by decide)) (win_ne hD)
            rw [k2]
            exact ⟨rfl, _, _, hR, hF, ⟨n0, n1.trans h1.symm, n2, n3⟩, ordF_bad k1⟩)
    · refine lv_aload_n hx hb dX8_order_88 rfl (lv_at hl 0 rfl) ?_
      refine lv_bipush (v := nI 115) hx hb dX8_order_89 (by first | rfl | decide) ?_
      refine lv_bipush (v := nI 115) hx hb dX8_order_91 (by first | rfl | decide) ?_
      refine m_callI (As := [.int (nI 115), .int (nI 115)]) (rest := []) ⟨hx, hb, hml, hown, ht⟩ (k_X8_sign_ok l g A M Y σ ar ns hR L q n1 hL n2 (sg_lt (by omega) (by omega) (hD)) n3 (nI 115) (nI 115) (hD)) (cwV 2 ht (gU uw_726 uw_728 uw_26 uw_42 uw_729) rfl rfl rfl (by decide +kernel) ⟨by decide, by decide⟩) hK hM hS (m_recv hK hM (hR.1 Y (by omega) (by omega)) hR.2.1 rfl) rfl hl.1 rfl (Nat.le_of_ble_eq_true rfl) dX8_order_93 ⟨by decide, by decide⟩ (fun rD M H locs hp hM hS => ?_)
      obtain ⟨e_rD, nsq, hR, hF1, m0, m1, m2, m3⟩ := hp
      have hF := hF.tr hF1
      have n0 := m0.trans n0
      have n1 := m1.trans n1
      have n2 := m2
      have n3 := m3
      refine lv_istore_n (lv' := [(2, .int (rD)), (0, .ref (Y)), (1, .int (nI 0))]) hx hb dX8_order_96 rfl hl (by decide) rfl (fun ls hl => ?_)
      by_cases hE : winC (sgC (ar 5) L (q + 1)) (nI 48) (nI 53) = 0
      · refine lv_aload_n hx hb dX8_order_97 rfl (lv_at hl 1 rfl) ?_
        refine lv_bipush (v := nI 48) hx hb dX8_order_98 (by first | rfl | decide) ?_
        refine lv_bipush (v := nI 53) hx hb dX8_order_100 (by first | rfl | decide) ?_
        refine m_callI (As := [.int (nI 48), .int (nI 53)]) (rest := []) ⟨hx, hb, hml, hown, ht⟩ (k_X8_sign_bad l g A M Y σ ar nsq hR L (q + 1) n1 hL n2 (by omega) (nI 48) (nI 53) (Or.inr (Or.inr (hE)))) (cwV 2 ht (gU uw_726 uw_728 uw_26 uw_42 uw_729) rfl rfl rfl (by decide +kernel) ⟨by decide, by decide⟩) hK hM hS (m_recv hK hM (hR.1 Y (by omega) (by omega)) hR.2.1 rfl) rfl hl.1 rfl (Nat.le_of_ble_eq_true rfl) dX8_order_102 ⟨by decide, by decide⟩ (fun rE M H locs hp hM hS => ?_)
        obtain ⟨e_rE, nsq, hR, hF1, m0, m1, m2, m3⟩ := hp
        have hF := hF.tr hF1
        have n0 := m0.trans n0
        have n1 := m1.trans n1
        have n2 := m2
        have n3 := m3
        refine lv_bipush (v := nI 48) hx hb dX8_order_105 (by first | rfl | decide) ?_
        refine lv_isub hx hb dX8_order_107 ?_
        refine lv_istore_n (lv' := [(3, .int ((rE) - (nI 48))), (2, .int (rD)), (0, .ref (Y)), (1, .int (nI 0))]) hx hb dX8_order_108 rfl hl (by decide) rfl (fun ls hl => ?_)
        refine lv_iload_n hx hb dX8_order_109 rfl (lv_at hl 3 rfl) ?_
        refine lv_if_eq (tgt := 125) hx hb dX8_order_110 (by decide) (fun c_110 => ?_) (fun c_110 => absurd (rfl) c_110)
        refine lv_iconst (v := nI 0) hx hb dX8_order_125 (by first | rfl | decide) ?_
        subst hQ
        exact m_zret hx hb hr (rfl) hlk hK hM hS dX8_order_126 (by
            obtain ⟨k1, k2⟩ := of_E (win_eq hD) hE
            rw [k2]
            exact ⟨rfl, _, _, hR, hF, ⟨n0, n1.trans h1.symm, n2, n3⟩, ordF_bad k1⟩)
      · refine lv_aload_n hx hb dX8_order_97 rfl (lv_at hl 1 rfl) ?_
        refine lv_bipush (v := nI 48) hx hb dX8_order_98 (by first | rfl | decide) ?_
        refine lv_bipush (v := nI 53) hx hb dX8_order_100 (by first | rfl | decide) ?_
        refine m_callI (As := [.int (nI 48), .int (nI 53)]) (rest := []) ⟨hx, hb, hml, hown, ht⟩ (k_X8_sign_ok l g A M Y σ ar nsq hR L (q + 1) n1 hL n2 (sg_lt (by omega) (by omega) (hE)) n3 (nI 48) (nI 53) (hE)) (cwV 2 ht (gU uw_726 uw_728 uw_26 uw_42 uw_729) rfl rfl rfl (by decide +kernel) ⟨by decide, by decide⟩) hK hM hS (m_recv hK hM (hR.1 Y (by omega) (by omega)) hR.2.1 rfl) rfl hl.1 rfl (Nat.le_of_ble_eq_true rfl) dX8_order_102 ⟨by decide, by decide⟩ (fun rE M H locs hp hM hS => ?_)
        obtain ⟨e_rE, nsq, hR, hF1, m0, m1, m2, m3⟩ := hp
        have hF := hF.tr hF1
        have n0 := m0.trans n0
        have n1 := m1.trans n1
        have n2 := m2
        have n3 := m3
        refine lv_bipush (v := nI 48) hx hb dX8_order_105 (by first | rfl | decide) ?_
        refine lv_isub hx hb dX8_order_107 ?_
        refine lv_istore_n (lv' := [(3, .int ((rE) - (nI 48))), (2, .int (rD)), (0, .ref (Y)), (1, .int (nI 0))]) hx hb dX8_order_108 rfl hl (by decide) rfl (fun ls hl => ?_)
        refine lv_iload_n hx hb dX8_order_109 rfl (lv_at hl 3 rfl) ?_
        refine lv_if_eq (tgt := 125) hx hb dX8_order_110 (by decide) (fun c_110 => ?_) (fun c_110 => absurd (rfl) c_110)
        refine lv_iconst (v := nI 0) hx hb dX8_order_125 (by first | rfl | decide) ?_
        subst hQ
        exact m_zret hx hb hr (rfl) hlk hK hM hS dX8_order_126 (by
            obtain ⟨k1, k2, k3⟩ := of_F (win_eq hD) hE
            rw [k1]
            exact ⟨rfl, _, _, hR, hF, ⟨n0, n1.trans h1.symm, n2, n3⟩, k2⟩)

set_option maxHeartbeats 4000000 in
set_option maxRecDepth 100000 in
/-- order -/
theorem k_X8_order_t (l : Launch) (g : GG) (A : Nat → Prop) (M0 : MM) (Y : Nat) (σ : Nat → Int32) (ar : Nat → Nat → Int32) (ns : Nat → Int32) (hR : RepM g A M0 Y σ ar ns) (L q : Nat) (h1 : ns 1 = nI L) (hL : L ≤ 60) (h2 : ns 2 = nI q) (hq : q ≤ 60) (h3 : ns 3 = nI 0) (ok : (ordC (ar 5) L q).1 = true) (n : Nat) (hn : σ 105 = nI n) (hn20 : n ≤ 20) (hT : TI σ n) (c1 : 0 ≤ (σ (17 * 0 + 6)).toInt) (c2 : (σ (17 * 0 + 6)).toInt ≤ 33000000)  : Met l yX8_order (Uw yX8_order cX8_order 6 (Option.some ClassFile.FieldType.int)) (rmD 6) (PreM [.ref (Y), .int (nI 1)] g A M0) (PosI (fun r M1 => r = (obM σ (ordC (ar 5) L q)).1 ∧ ∃ ns1, RepM g A M1 Y (obM σ (ordC (ar 5) L q)).2 ar ns1 ∧ FrM Y M0 M1 ∧ NSs ns ns1 (ordC (ar 5) L q).2.1 (nI 0)) g A) 0 0 A := by
  refine mk_Met (own := RX8) rfl rfl (by decide) (Nat.le_of_ble_eq_true rfl) ?_
  intro p e s m below meth c ls aa Q haa hQ hx hb hr hlk hml hown hts hK hM hS hl hnm
  obtain ⟨M, hMM⟩ : ∃ M, M = M0 := ⟨_, rfl⟩
  rw [← hMM] at hM hR
  have ht : ∀ w ∈ lw_good, w.before _ s = true := fun w h => hts w (List.mem_cons_of_mem _ h)
  have hF : FrM Y M0 M := by rw [hMM]; exact FrM.rf
  have hl : lv_has ls 6 [(0, .ref (Y)), (1, .int (nI 1))] := hl
  have n0 : ns 0 = ns 0 := rfl
  have n1 := h1
  have n2 := h2
  have n3 := h3
  rcases ordT ok with ⟨h114, hA, hB, hC⟩ | ⟨h115, hE⟩
  · have hqL : q < L := sg_nz h114 (by omega) (by omega)
    have es : sgC (ar 5) L q = ar 5 q := if_pos hqL
    obtain ⟨k1, -, k3⟩ := of_D h114 hA hB hC
    obtain ⟨ka, kx, ky⟩ := k3 ok
    have hpa : pA (ar 5) L q ≤ q + 1 + 2 ∧ q + 1 + 1 ≤ pA (ar 5) L q := nuM_q (ar 5) L (q + 1) (nI 99)
    rcases ord_cases ok with ⟨kb, -⟩ | ⟨-, z, hz, ez⟩
    · exact absurd (ka.symm.trans kb) (by decide)
    refine lv_aload_n hx hb dX8_order_0 rfl (lv_at hl 0 rfl) ?_
    refine rm_getN2 hx hb ht ui_X8 hown hK hM hR (ht _ uw_602) dX8_order_1 ?_
    rw [n2]
    refine lv_aload_n hx hb dX8_order_4 rfl (lv_at hl 0 rfl) ?_
    refine rm_getN1 hx hb ht ui_X8 hown hK hM hR (ht _ uw_601) dX8_order_5 ?_
    rw [n1]
    refine lv_icmp_ge (tgt := 88) hx hb dX8_order_8 (by decide) (fun c_8 => absurd c_8 (nI_ge hqL (by omega))) (fun c_8 => ?_)
    refine lv_aload_n hx hb dX8_order_11 rfl (lv_at hl 0 rfl) ?_
    refine rm_getA5 hx hb ht ui_X8 hown hK hM hR (ht _ uw_600) dX8_order_12 ?_
    refine lv_aload_n hx hb dX8_order_15 rfl (lv_at hl 0 rfl) ?_
    refine rm_getN2 hx hb ht ui_X8 hown hK hM hR (ht _ uw_602) dX8_order_16 ?_
    rw [n2]
    refine rm_aald hx hb hK hM hR 5 (by decide) (by decide) (by decide) (i := q) (show q < 60 by omega) dX8_order_19 ?_
    refine lv_bipush (v := nI 114) hx hb dX8_order_20 (by first | rfl | decide) ?_
    refine lv_icmp_ne (tgt := 88) hx hb dX8_order_22 (by decide) (fun c_22 => absurd (es.symm.trans h114) c_22) (fun c_22 => ?_)
    refine lv_aload_n hx hb dX8_order_25 rfl (lv_at hl 0 rfl) ?_
    refine lv_dup hx hb dX8_order_26 rfl ?_
    refine rm_getN2 hx hb ht ui_X8 hown hK hM hR (ht _ uw_602) dX8_order_27 ?_
    rw [n2]
    refine lv_iconst (v := nI 1) hx hb dX8_order_30 (by first | rfl | decide) ?_
    refine lv_iadd hx hb dX8_order_31 ?_
    rw [nI_add (q) (1)]
    refine rm_putN2 hx hb ht ui_X8 hown hK hM hS hR hF (ht _ uw_602) dX8_order_32 (fun M H locs hM hR hF hS => ?_)
    obtain ⟨nsq, enq⟩ : ∃ n1, n1 = (va_up ns 2 (nI (q + 1))) := ⟨_, rfl⟩
    rw [← enq] at hR
    have n0 : nsq 0 = ns 0 := by rw [enq]; exact n0
    have n1 : nsq 1 = nI L := by rw [enq]; exact n1
    have n3 : nsq 3 = nI 0 := by rw [enq]; exact n3
    have n2 : nsq 2 = nI (q + 1) := by rw [enq]; rfl
    refine lv_aload_n hx hb dX8_order_35 rfl (lv_at hl 0 rfl) ?_
    refine lv_iconst (v := nI 0) hx hb dX8_order_36 (by first | rfl | decide) ?_
    refine lv_bipush (v := nI 99) hx hb dX8_order_37 (by first | rfl | decide) ?_
    refine m_callI (As := [.int (nI 0), .int (nI 99)]) (rest := []) ⟨hx, hb, hml, hown, ht⟩ (k_X8_number_ok l g A M Y σ ar nsq hR L (q + 1) n1 hL n2 (sg_lt (by omega) (by omega) (hA)) n3 0 (by omega) (nI 99) (nI_le (by omega) (by omega)) (hA)) (cwV 2 ht (gU uw_722 uw_724 uw_25 uw_42 uw_725) rfl rfl rfl (by decide +kernel) ⟨by decide, by decide⟩) hK hM hS (m_recv hK hM (hR.1 Y (by omega) (by omega)) hR.2.1 rfl) rfl hl.1 rfl (Nat.le_of_ble_eq_true rfl) dX8_order_39 ⟨by decide, by decide⟩ (fun rA M H locs hp hM hS => ?_)
    obtain ⟨e_rA, nsq, hR, hF1, m0, m1, m2, m3⟩ := hp
    have hF := hF.tr hF1
    have n0 := m0.trans n0
    have n1 := m1.trans n1
    have n2 := m2
    have n3 := m3
    have e_rA := e_rA.trans kx
    subst e_rA
    refine lv_istore_n (lv' := [(2, .int ((ordC (ar 5) L q).2.2.2.1)), (0, .ref (Y)), (1, .int (nI 1))]) hx hb dX8_order_42 rfl hl (by decide) rfl (fun ls hl => ?_)
    refine lv_aload_n hx hb dX8_order_43 rfl (lv_at hl 1 rfl) ?_
    refine lv_bipush (v := nI 104) hx hb dX8_order_44 (by first | rfl | decide) ?_
    refine lv_bipush (v := nI 104) hx hb dX8_order_46 (by first | rfl | decide) ?_
    refine m_callI (As := [.int (nI 104), .int (nI 104)]) (rest := []) ⟨hx, hb, hml, hown, ht⟩ (k_X8_sign_ok l g A M Y σ ar nsq hR L (pA (ar 5) L q) n1 hL n2 (sg_lt (by omega) (by omega) (hB)) n3 (nI 104) (nI 104) (hB)) (cwV 2 ht (gU uw_726 uw_728 uw_26 uw_42 uw_729) rfl rfl rfl (by decide +kernel) ⟨by decide, by decide⟩) hK hM hS (m_recv hK hM (hR.1 Y (by omega) (by omega)) hR.2.1 rfl) rfl hl.1 rfl (Nat.le_of_ble_eq_true rfl) dX8_order_48 ⟨by decide, by decide⟩ (fun rB M H locs hp hM hS => ?_)
    obtain ⟨e_rB, nsq, hR, hF1, m0, m1, m2, m3⟩ := hp
    have hF := hF.tr hF1
    have n0 := m0.trans n0
    have n1 := m1.trans n1
    have n2 := m2
    have n3 := m3
    refine lv_istore_n (lv' := [(3, .int (rB)), (2, .int ((ordC (ar 5) L q).2.2.2.1)), (0, .ref (Y)), (1, .int (nI 1))]) hx hb dX8_order_51 rfl hl (by decide) rfl (fun ls hl => ?_)
    refine lv_aload_n hx hb dX8_order_52 rfl (lv_at hl 2 rfl) ?_
    refine lv_iconst (v := nI 1) hx hb dX8_order_53 (by first | rfl | decide) ?_
    refine lv_bipush (v := nI 24) hx hb dX8_order_54 (by first | rfl | decide) ?_
    refine m_callI (As := [.int (nI 1), .int (nI 24)]) (rest := []) ⟨hx, hb, hml, hown, ht⟩ (k_X8_number_ok l g A M Y σ ar nsq hR L ((pA (ar 5) L q) + 1) n1 hL n2 (sg_lt (by omega) (by omega) (hC)) n3 1 (by omega) (nI 24) (nI_le (by omega) (by omega)) (hC)) (cwV 2 ht (gU uw_722 uw_724 uw_25 uw_42 uw_725) rfl rfl rfl (by decide +kernel) ⟨by decide, by decide⟩) hK hM hS (m_recv hK hM (hR.1 Y (by omega) (by omega)) hR.2.1 rfl) rfl hl.1 rfl (Nat.le_of_ble_eq_true rfl) dX8_order_56 ⟨by decide, by decide⟩ (fun rC M H locs hp hM hS => ?_)
    obtain ⟨e_rC, nsq, hR, hF1, m0, m1, m2, m3⟩ := hp
    have hF := hF.tr hF1
    have n0 := m0.trans n0
    have n1 := m1.trans n1
    have n2 := m2
    have n3 := m3
    have e_rC := (e_rC.trans ky).trans ez
    subst e_rC
    refine lv_istore (lv' := [(4, .int (nI z)), (3, .int (rB)), (2, .int ((ordC (ar 5) L q).2.2.2.1)), (0, .ref (Y)), (1, .int (nI 1))]) hx hb dX8_order_59 hl (by decide) rfl (fun ls hl => ?_)
    refine lv_iload_n hx hb dX8_order_61 rfl (lv_at hl 4 rfl) ?_
    refine lv_if_eq (tgt := 75) hx hb dX8_order_62 (by decide) (fun c_62 => absurd c_62 (by decide)) (fun c_62 => ?_)
    refine lv_aload_n hx hb dX8_order_65 rfl (lv_at hl 3 rfl) ?_
    refine lv_iload_n hx hb dX8_order_66 rfl (lv_at hl 2 rfl) ?_
    refine lv_iload hx hb dX8_order_67 (lv_at hl 0 rfl) ?_
    refine m_callRI (val := raeM σ ((ordC (ar 5) L q).2.2.2.1) (nI z)) (As := [.int ((ordC (ar 5) L q).2.2.2.1), .int (nI z)]) (rest := []) ⟨hx, hb, hml, hown, ht⟩ (k_X8_rainError l g A M Y σ ar nsq hR ((ordC (ar 5) L q).2.2.2.1) (nI z)) (cwV 2 ht (gU uw_666 uw_668 uw_16 uw_42 uw_669) rfl rfl rfl (by decide +kernel) ⟨by decide, by decide⟩) hK hM hS (m_recv hK hM (hR.1 Y (by omega) (by omega)) hR.2.1 rfl) rfl hl.1 rfl (Nat.le_of_ble_eq_true rfl) dX8_order_69 ⟨by decide, by decide⟩ (fun H locs hM hS => ?_)
    refine lv_if_ge (tgt := 77) hx hb dX8_order_72 (by decide) (fun c_72 => ?_) (fun c_72 => ?_)
    · refine lv_aload_n hx hb dX8_order_77 rfl (lv_at hl 3 rfl) ?_
      refine lv_iload_n hx hb dX8_order_78 rfl (lv_at hl 2 rfl) ?_
      refine lv_iload hx hb dX8_order_79 (lv_at hl 0 rfl) ?_
      refine m_callI (As := [.int ((ordC (ar 5) L q).2.2.2.1), .int (nI z)]) (rest := []) ⟨hx, hb, hml, hown, ht⟩ (k_X8_rains l g A M Y σ ar nsq hR (ordC (ar 5) L q).2.2.2.1 z (by omega) ⟨n, hn20, hn, hT⟩) (cwV 2 ht (gU uw_671 uw_673 uw_17 uw_42 uw_674) rfl rfl rfl (by decide +kernel) ⟨by decide, by decide⟩) hK hM hS (m_recv hK hM (hR.1 Y (by omega) (by omega)) hR.2.1 rfl) rfl hl.1 rfl (Nat.le_of_ble_eq_true rfl) dX8_order_81 ⟨by decide, by decide⟩ (fun r9 M H locs hp hM hS => ?_)
      obtain ⟨e9, hR, hF1⟩ := hp
      have hF := hF.tr hF1
      refine lv_istore (lv' := [(5, .int (r9)), (4, .int (nI z)), (3, .int (rB)), (2, .int ((ordC (ar 5) L q).2.2.2.1)), (0, .ref (Y)), (1, .int (nI 1))]) hx hb dX8_order_84 hl (by decide) rfl (fun ls hl => ?_)
      refine lv_iconst (v := nI 1) hx hb dX8_order_86 (by first | rfl | decide) ?_
      subst hQ
      exact m_zret hx hb hr (rfl) hlk hK hM hS dX8_order_87 (by
          rw [obM_r ka, ez, k1]
          rw [obR_b (Int32.not_lt.mpr c_72) (by omega)]
          exact ⟨rfl, ⟨_, hR, hF, n0, n1.trans h1.symm, n2, n3⟩⟩)
    · refine lv_iconst (v := nI 0) hx hb dX8_order_75 (by first | rfl | decide) ?_
      subst hQ
      exact m_zret hx hb hr (rfl) hlk hK hM hS dX8_order_76 (by
          rw [obM_r ka, ez, k1]
          rw [obR_a (Int32.not_le.mp c_72)]
          exact ⟨rfl, ⟨_, hR, hF, n0, n1.trans h1.symm, n2, n3⟩⟩)
  · have hqL : q < L := sg_nz h115 (by omega) (by omega)
    have es : sgC (ar 5) L q = ar 5 q := if_pos hqL
    have hD := win_self h115
    obtain ⟨k1, -, i, hi, ei, k3⟩ := of_F h115 hE
    obtain ⟨ka, kx⟩ := k3 ok
    refine lv_aload_n hx hb dX8_order_0 rfl (lv_at hl 0 rfl) ?_
    refine rm_getN2 hx hb ht ui_X8 hown hK hM hR (ht _ uw_602) dX8_order_1 ?_
    rw [n2]
    refine lv_aload_n hx hb dX8_order_4 rfl (lv_at hl 0 rfl) ?_
    refine rm_getN1 hx hb ht ui_X8 hown hK hM hR (ht _ uw_601) dX8_order_5 ?_
    rw [n1]
    refine lv_icmp_ge (tgt := 88) hx hb dX8_order_8 (by decide) (fun c_8 => absurd c_8 (nI_ge hqL (by omega))) (fun c_8 => ?_)
    refine lv_aload_n hx hb dX8_order_11 rfl (lv_at hl 0 rfl) ?_
    refine rm_getA5 hx hb ht ui_X8 hown hK hM hR (ht _ uw_600) dX8_order_12 ?_
    refine lv_aload_n hx hb dX8_order_15 rfl (lv_at hl 0 rfl) ?_
    refine rm_getN2 hx hb ht ui_X8 hown hK hM hR (ht _ uw_602) dX8_order_16 ?_
    rw [n2]
    refine rm_aald hx hb hK hM hR 5 (by decide) (by decide) (by decide) (i := q) (show q < 60 by omega) dX8_order_19 ?_
    refine lv_bipush (v := nI 114) hx hb dX8_order_20 (by first | rfl | decide) ?_
    refine lv_icmp_ne (tgt := 88) hx hb dX8_order_22 (by decide) (fun c_22 => ?_) (fun c_22 => absurd c_22 (fun z => absurd ((es.trans z).symm.trans h115) (by decide)))
    refine lv_aload_n hx hb dX8_order_88 rfl (lv_at hl 0 rfl) ?_
    refine lv_bipush (v := nI 115) hx hb dX8_order_89 (by first | rfl | decide) ?_
    refine lv_bipush (v := nI 115) hx hb dX8_order_91 (by first | rfl | decide) ?_
    refine m_callI (As := [.int (nI 115), .int (nI 115)]) (rest := []) ⟨hx, hb, hml, hown, ht⟩ (k_X8_sign_ok l g A M Y σ ar ns hR L q n1 hL n2 (sg_lt (by omega) (by omega) (hD)) n3 (nI 115) (nI 115) (hD)) (cwV 2 ht (gU uw_726 uw_728 uw_26 uw_42 uw_729) rfl rfl rfl (by decide +kernel) ⟨by decide, by decide⟩) hK hM hS (m_recv hK hM (hR.1 Y (by omega) (by omega)) hR.2.1 rfl) rfl hl.1 rfl (Nat.le_of_ble_eq_true rfl) dX8_order_93 ⟨by decide, by decide⟩ (fun rD M H locs hp hM hS => ?_)
    obtain ⟨e_rD, nsq, hR, hF1, m0, m1, m2, m3⟩ := hp
    have hF := hF.tr hF1
    have n0 := m0.trans n0
    have n1 := m1.trans n1
    have n2 := m2
    have n3 := m3
    refine lv_istore_n (lv' := [(2, .int (rD)), (0, .ref (Y)), (1, .int (nI 1))]) hx hb dX8_order_96 rfl hl (by decide) rfl (fun ls hl => ?_)
    refine lv_aload_n hx hb dX8_order_97 rfl (lv_at hl 1 rfl) ?_
    refine lv_bipush (v := nI 48) hx hb dX8_order_98 (by first | rfl | decide) ?_
    refine lv_bipush (v := nI 53) hx hb dX8_order_100 (by first | rfl | decide) ?_
    refine m_callI (As := [.int (nI 48), .int (nI 53)]) (rest := []) ⟨hx, hb, hml, hown, ht⟩ (k_X8_sign_ok l g A M Y σ ar nsq hR L (q + 1) n1 hL n2 (sg_lt (by omega) (by omega) (hE)) n3 (nI 48) (nI 53) (hE)) (cwV 2 ht (gU uw_726 uw_728 uw_26 uw_42 uw_729) rfl rfl rfl (by decide +kernel) ⟨by decide, by decide⟩) hK hM hS (m_recv hK hM (hR.1 Y (by omega) (by omega)) hR.2.1 rfl) rfl hl.1 rfl (Nat.le_of_ble_eq_true rfl) dX8_order_102 ⟨by decide, by decide⟩ (fun rE M H locs hp hM hS => ?_)
    obtain ⟨e_rE, nsq, hR, hF1, m0, m1, m2, m3⟩ := hp
    have hF := hF.tr hF1
    have n0 := m0.trans n0
    have n1 := m1.trans n1
    have n2 := m2
    have n3 := m3
    have e_rE := e_rE.trans ei
    subst e_rE
    refine lv_bipush (v := nI 48) hx hb dX8_order_105 (by first | rfl | decide) ?_
    refine lv_isub hx hb dX8_order_107 ?_
    rw [pk_sub (a := (48 + i)) (b := 48) (by omega)]
    refine lv_istore_n (lv' := [(3, .int (nI ((48 + i) - 48))), (2, .int (rD)), (0, .ref (Y)), (1, .int (nI 1))]) hx hb dX8_order_108 rfl hl (by decide) rfl (fun ls hl => ?_)
    rw [show 48 + i - 48 = i by omega] at hl
    refine lv_iload_n hx hb dX8_order_109 rfl (lv_at hl 3 rfl) ?_
    refine lv_if_eq (tgt := 125) hx hb dX8_order_110 (by decide) (fun c_110 => absurd c_110 (by decide)) (fun c_110 => ?_)
    by_cases hlt : n < 20
    · refine lv_aload_n hx hb dX8_order_113 rfl (lv_at hl 2 rfl) ?_
      refine lv_iload_n hx hb dX8_order_114 rfl (lv_at hl 0 rfl) ?_
      refine m_callI (As := [.int (nI i)]) (rest := []) ⟨hx, hb, hml, hown, ht⟩ (k_X8_sends l g A M Y σ ar nsq hR i n hn hn20 hT hi c1 c2) (cwV 1 ht (gU uw_694 uw_696 uw_21 uw_42 uw_697) rfl rfl rfl (by decide +kernel) ⟨by decide, by decide⟩) hK hM hS (m_recv hK hM (hR.1 Y (by omega) (by omega)) hR.2.1 rfl) rfl hl.1 rfl (Nat.le_of_ble_eq_true rfl) dX8_order_115 ⟨by decide, by decide⟩ (fun r9 M H locs hp hM hS => ?_)
      obtain ⟨e9, hR, hF1⟩ := hp.1 hlt
      subst e9
      have hF := hF.tr hF1
      refine lv_if_lt (tgt := 125) hx hb dX8_order_118 (by decide) (fun c_118 => ?_) (fun c_118 => ?_)
      · refine lv_iconst (v := nI 0) hx hb dX8_order_125 (by first | rfl | decide) ?_
        subst hQ
        exact m_zret hx hb hr (rfl) hlk hK hM hS dX8_order_126 (by
            rw [obM_s ka kx hi, k1]
            rw [obS_a hn hlt, if_pos c_118]
            exact ⟨rfl, ⟨_, hR, hF, n0, n1.trans h1.symm, n2, n3⟩⟩)
      · refine lv_iconst (v := nI 1) hx hb dX8_order_121 (by first | rfl | decide) ?_
        refine lv_goto (tgt := 126) hx hb dX8_order_122 (by decide) ?_
        subst hQ
        exact m_zret hx hb hr (rfl) hlk hK hM hS dX8_order_126 (by
            rw [obM_s ka kx hi, k1]
            rw [obS_a hn hlt, if_neg c_118]
            exact ⟨rfl, ⟨_, hR, hF, n0, n1.trans h1.symm, n2, n3⟩⟩)
    · refine lv_aload_n hx hb dX8_order_113 rfl (lv_at hl 2 rfl) ?_
      refine lv_iload_n hx hb dX8_order_114 rfl (lv_at hl 0 rfl) ?_
      refine m_callI (As := [.int (nI i)]) (rest := []) ⟨hx, hb, hml, hown, ht⟩ (k_X8_sends l g A M Y σ ar nsq hR i n hn hn20 hT hi c1 c2) (cwV 1 ht (gU uw_694 uw_696 uw_21 uw_42 uw_697) rfl rfl rfl (by decide +kernel) ⟨by decide, by decide⟩) hK hM hS (m_recv hK hM (hR.1 Y (by omega) (by omega)) hR.2.1 rfl) rfl hl.1 rfl (Nat.le_of_ble_eq_true rfl) dX8_order_115 ⟨by decide, by decide⟩ (fun r9 M H locs hp hM hS => ?_)
      obtain ⟨e9, e8⟩ := hp.2 hlt
      subst e9
      rw [e8] at hM
      refine lv_if_lt (tgt := 125) hx hb dX8_order_118 (by decide) (fun c_118 => ?_) (fun c_118 => absurd (by decide) c_118)
      refine lv_iconst (v := nI 0) hx hb dX8_order_125 (by first | rfl | decide) ?_
      subst hQ
      exact m_zret hx hb hr (rfl) hlk hK hM hS dX8_order_126 (by
          rw [obM_s ka kx hi, k1]
          rw [obS_b hn hn20 hlt]
          exact ⟨rfl, ⟨_, hR, hF, n0, n1.trans h1.symm, n2, n3⟩⟩)

set_option maxHeartbeats 4000000 in
set_option maxRecDepth 100000 in
/-- go -/
theorem k_X8_go_f (l : Launch) (g : GG) (A : Nat → Prop) (M0 : MM) (Y : Nat) (σ : Nat → Int32) (ar : Nat → Nat → Int32) (ns : Nat → Int32) (hR : RepM g A M0 Y σ ar ns) (L : Nat) (h1 : ns 1 = nI L) (hL : L ≤ 60)  : Met l yX8_go (Uw yX8_go cX8_go 5 (Option.some ClassFile.FieldType.int)) (rmD 7) (PreM [.ref (Y), .int (nI 0)] g A M0) (PosI (fun r M1 => r = nI 0 ∧ ∃ ns1 q w, RepM g A M1 Y σ ar ns1 ∧ FrM Y M0 M1 ∧ NSs ns ns1 q w ∧ ((fauC (ar 5) L 60 0 = none ∧ w = nI 0) ∨ (fauC (ar 5) L 60 0 = some q ∧ w = nI 1))) g A) 0 0 A := by
  refine mk_Met (own := RX8) rfl rfl (by decide) (Nat.le_of_ble_eq_true rfl) ?_
  intro p e s m below meth c ls aa Q haa hQ hx hb hr hlk hml hown hts hK hM hS hl hnm
  obtain ⟨M, hMM⟩ : ∃ M, M = M0 := ⟨_, rfl⟩
  rw [← hMM] at hM hR
  have ht : ∀ w ∈ lw_good, w.before _ s = true := fun w h => hts w (List.mem_cons_of_mem _ h)
  have hF : FrM Y M0 M := by rw [hMM]; exact FrM.rf
  have hl : lv_has ls 5 [(0, .ref (Y)), (1, .int (nI 0))] := hl
  have n0 : ns 0 = ns 0 := rfl
  have n1 := h1
  refine lv_aload_n hx hb dX8_go_0 rfl (lv_at hl 0 rfl) ?_
  refine lv_iconst (v := nI 0) hx hb dX8_go_1 (by first | rfl | decide) ?_
  refine rm_putN2 hx hb ht ui_X8 hown hK hM hS hR hF (ht _ uw_602) dX8_go_2 (fun M H locs hM hR hF hS => ?_)
  obtain ⟨nsq, enq⟩ : ∃ n1, n1 = (va_up ns 2 (nI 0)) := ⟨_, rfl⟩
  rw [← enq] at hR
  have n0 : nsq 0 = ns 0 := by rw [enq]; exact n0
  have n1 : nsq 1 = nI L := by rw [enq]; exact n1
  have n2 : nsq 2 = nI 0 := by rw [enq]; rfl
  refine lv_aload_n hx hb dX8_go_5 rfl (lv_at hl 0 rfl) ?_
  refine lv_iconst (v := nI 0) hx hb dX8_go_6 (by first | rfl | decide) ?_
  refine rm_putN3 hx hb ht ui_X8 hown hK hM hS hR hF (ht _ uw_603) (⟨rfl, rfl⟩) dX8_go_7 (fun M H locs hM hR hF hS => ?_)
  obtain ⟨nsq, enq⟩ : ∃ n1, n1 = (va_up nsq 3 (nI 0)) := ⟨_, rfl⟩
  rw [← enq] at hR
  have n0 : nsq 0 = ns 0 := by rw [enq]; exact n0
  have n1 : nsq 1 = nI L := by rw [enq]; exact n1
  have n2 : nsq 2 = nI 0 := by rw [enq]; exact n2
  have n3 : nsq 3 = nI 0 := by rw [enq]; rfl
  refine lv_iconst (v := nI 0) hx hb dX8_go_10 (by first | rfl | decide) ?_
  refine lv_istore_n (lv' := [(2, .int (nI 0)), (0, .ref (Y)), (1, .int (nI 0))]) hx hb dX8_go_11 rfl hl (by decide) rfl (fun ls hl => ?_)
  refine lv_iconst (v := nI 1) hx hb dX8_go_12 (by first | rfl | decide) ?_
  refine lv_istore_n (lv' := [(3, .int (nI 1)), (2, .int (nI 0)), (0, .ref (Y)), (1, .int (nI 0))]) hx hb dX8_go_13 rfl hl (by decide) rfl (fun ls hl => ?_)
  refine lv_iload_n hx hb dX8_go_14 rfl (lv_at hl 0 rfl) ?_
  refine lv_if_eq (tgt := 80) hx hb dX8_go_15 (by decide) (fun c_15 => absurd c_15 (by decide)) (fun c_15 => ?_)
  obtain ⟨w0, hw0⟩ : ∃ w0, w0 = fauC (ar 5) L 60 0 := ⟨_, rfl⟩
  have loop_18 : ∀ (z_18 : Nat) (o : Nat) (q : Nat) (t9 : Int32) (nsq : Nat → Int32) (M : MM) (H : Heap) (locs : List Loc) (ls : Array Slot), L - q < z_18 → 3 * o ≤ q → q ≤ L → nsq 0 = ns 0 → nsq 1 = nI L → nsq 2 = nI q → nsq 3 = nI 0 → t9 = nI 0 → fauC (ar 5) L (60 - o) q = w0 → HD g A M H → RepM g A M Y σ ar nsq → FrM Y M0 M → va_S A s.heap H locs → lv_has ls 5 [(3, .int (nI 1)), (2, .int (t9)), (0, .ref (Y)), (1, .int (nI 0))] → W p l e (rmD 7) s m aa below meth c H locs 0 0 Q (F0 m 18 ls []) := by
    intro z_18
    induction z_18 with
    | zero => intro o q t9 nsq M H locs ls hz ho hqL n0 n1 n2 n3 ht9 hw; exact absurd hz (Nat.not_lt_zero _)
    | succ z_18 ih_18 =>
    intro o q t9 nsq M H locs ls hz ho hqL n0 n1 n2 n3 ht9 hw hM hR hF hS hl
    have ho60 : o < 60 := by omega
    refine lv_iload_n hx hb dX8_go_18 rfl (lv_at hl 1 rfl) ?_
    refine lv_aload_n hx hb dX8_go_19 rfl (lv_at hl 2 rfl) ?_
    refine lv_iload_n hx hb dX8_go_20 rfl (lv_at hl 3 rfl) ?_
    refine m_callI (As := [.int (nI 0)]) (rest := [.int (t9)]) ⟨hx, hb, hml, hown, ht⟩ (k_X8_order_f l g A M Y σ ar nsq hR L q n1 hL n2 (by omega) n3) (cwV 1 ht (gU uw_718 uw_720 uw_24 uw_42 uw_721) rfl rfl rfl (by decide +kernel) ⟨by decide, by decide⟩) hK hM hS (m_recv hK hM (hR.1 Y (by omega) (by omega)) hR.2.1 rfl) rfl hl.1 rfl (Nat.le_of_ble_eq_true rfl) dX8_go_21 ⟨by decide, by decide⟩ (fun r9 M H locs hp hM hS => ?_)
    obtain ⟨e9, nsq, w, hR, hF1, ⟨m0, m1, m2, m3⟩, hoF⟩ := hp
    have hF := hF.tr hF1
    have n0 := m0.trans n0
    have n1 := m1.trans n1
    have n2 := m2
    have n3 := m3
    refine lv_iadd hx hb dX8_go_24 ?_
    rw [ht9, e9, nI_add]
    refine lv_istore_n (lv' := [(2, .int (nI (0 + 0))), (3, .int (nI 1)), (0, .ref (Y)), (1, .int (nI 0))]) hx hb dX8_go_25 rfl hl (by decide) rfl (fun ls hl => ?_)
    have hoq := ordC_q (ar 5) L q
    refine lv_aload_n hx hb dX8_go_26 rfl (lv_at hl 2 rfl) ?_
    refine rm_getN3 hx hb ht ui_X8 hown hK hM hR (ht _ uw_603) dX8_go_27 ?_
    rw [n3]
    refine lv_if_ne (tgt := 48) hx hb dX8_go_30 (by decide) (fun c_30 => ?_) (fun c_30 => ?_)
    · refine lv_iconst (v := nI 0) hx hb dX8_go_48 (by first | rfl | decide) ?_
      refine lv_istore_n (lv' := [(3, .int (nI 0)), (2, .int (nI (0 + 0))), (0, .ref (Y)), (1, .int (nI 0))]) hx hb dX8_go_49 rfl hl (by decide) rfl (fun ls hl => ?_)
      refine lv_iload_n hx hb dX8_go_50 rfl (lv_at hl 0 rfl) ?_
      refine lv_if_eq (tgt := 14) hx hb dX8_go_51 (by decide) (fun c_51 => ?_) (fun c_51 => absurd (rfl) c_51)
      refine lv_iload_n hx hb dX8_go_14 rfl (lv_at hl 0 rfl) ?_
      refine lv_if_eq (tgt := 80) hx hb dX8_go_15 (by decide) (fun c_15 => ?_) (fun c_15 => absurd (rfl) c_15)
      refine lv_iload_n hx hb dX8_go_80 rfl (lv_at hl 1 rfl) ?_
      subst hQ
      exact m_zret hx hb hr (rfl) hlk hK hM hS dX8_go_81 (by
          refine ⟨rfl, nsq, _, _, hR, hF, ⟨n0, n1.trans h1.symm, n2, n3⟩, ?_⟩
          rw [← hw0, ← hw]
          first
            | exact Or.inr (go_1 ho60 hoF c_30)
            | exact Or.inl ⟨go_2 ho60 hoF c_30 (nI_le_of (by omega) (by omega) c_41), rfl⟩
            | exact Or.inr ⟨go_3 ho60 hpL hG, rfl⟩)
    · have n3 : nsq 3 = nI 0 := n3.trans c_30
      refine lv_aload_n hx hb dX8_go_33 rfl (lv_at hl 2 rfl) ?_
      refine rm_getN2 hx hb ht ui_X8 hown hK hM hR (ht _ uw_602) dX8_go_34 ?_
      rw [n2]
      refine lv_aload_n hx hb dX8_go_37 rfl (lv_at hl 2 rfl) ?_
      refine rm_getN1 hx hb ht ui_X8 hown hK hM hR (ht _ uw_601) dX8_go_38 ?_
      rw [n1]
      refine lv_icmp_ge (tgt := 48) hx hb dX8_go_41 (by decide) (fun c_41 => ?_) (fun c_41 => ?_)
      · refine lv_iconst (v := nI 0) hx hb dX8_go_48 (by first | rfl | decide) ?_
        refine lv_istore_n (lv' := [(3, .int (nI 0)), (2, .int (nI (0 + 0))), (0, .ref (Y)), (1, .int (nI 0))]) hx hb dX8_go_49 rfl hl (by decide) rfl (fun ls hl => ?_)
        refine lv_iload_n hx hb dX8_go_50 rfl (lv_at hl 0 rfl) ?_
        refine lv_if_eq (tgt := 14) hx hb dX8_go_51 (by decide) (fun c_51 => ?_) (fun c_51 => absurd (rfl) c_51)
        refine lv_iload_n hx hb dX8_go_14 rfl (lv_at hl 0 rfl) ?_
        refine lv_if_eq (tgt := 80) hx hb dX8_go_15 (by decide) (fun c_15 => ?_) (fun c_15 => absurd (rfl) c_15)
        refine lv_iload_n hx hb dX8_go_80 rfl (lv_at hl 1 rfl) ?_
        subst hQ
        exact m_zret hx hb hr (rfl) hlk hK hM hS dX8_go_81 (by
            refine ⟨rfl, nsq, _, _, hR, hF, ⟨n0, n1.trans h1.symm, n2, n3⟩, ?_⟩
            rw [← hw0, ← hw]
            first
              | exact Or.inr (go_1 ho60 hoF c_30)
              | exact Or.inl ⟨go_2 ho60 hoF c_30 (nI_le_of (by omega) (by omega) c_41), rfl⟩
              | exact Or.inr ⟨go_3 ho60 hpL hG, rfl⟩)
      · have hpL : (ordC (ar 5) L q).2.1 < L := nI_lt_of (by omega) (by omega) c_41
        refine lv_iconst (v := nI 1) hx hb dX8_go_44 (by first | rfl | decide) ?_
        refine lv_goto (tgt := 49) hx hb dX8_go_45 (by decide) ?_
        refine lv_istore_n (lv' := [(3, .int (nI 1)), (2, .int (nI (0 + 0))), (0, .ref (Y)), (1, .int (nI 0))]) hx hb dX8_go_49 rfl hl (by decide) rfl (fun ls hl => ?_)
        refine lv_iload_n hx hb dX8_go_50 rfl (lv_at hl 0 rfl) ?_
        refine lv_if_eq (tgt := 14) hx hb dX8_go_51 (by decide) (fun c_51 => absurd c_51 (by decide)) (fun c_51 => ?_)
        by_cases hG : winC (sgC (ar 5) L (ordC (ar 5) L q).2.1) (nI 59) (nI 59) = 0
        · refine lv_aload_n hx hb dX8_go_54 rfl (lv_at hl 2 rfl) ?_
          refine lv_bipush (v := nI 59) hx hb dX8_go_55 (by first | rfl | decide) ?_
          refine lv_bipush (v := nI 59) hx hb dX8_go_57 (by first | rfl | decide) ?_
          refine m_callI (As := [.int (nI 59), .int (nI 59)]) (rest := []) ⟨hx, hb, hml, hown, ht⟩ (k_X8_sign_bad l g A M Y σ ar nsq hR L (ordC (ar 5) L q).2.1 n1 hL n2 (by omega) (nI 59) (nI 59) (Or.inr (Or.inr hG))) (cwV 2 ht (gU uw_726 uw_728 uw_26 uw_42 uw_729) rfl rfl rfl (by decide +kernel) ⟨by decide, by decide⟩) hK hM hS (m_recv hK hM (hR.1 Y (by omega) (by omega)) hR.2.1 rfl) rfl hl.1 rfl (Nat.le_of_ble_eq_true rfl) dX8_go_59 ⟨by decide, by decide⟩ (fun r8 M H locs hp hM hS => ?_)
          obtain ⟨e8, nsq, hR, hF1, m0, m1, m2, m3⟩ := hp
          have hF := hF.tr hF1
          have n0 := m0.trans n0
          have n1 := m1.trans n1
          have n2 := m2
          have n3 := m3
          refine lv_istore (lv' := [(4, .int (r8)), (3, .int (nI 1)), (2, .int (nI (0 + 0))), (0, .ref (Y)), (1, .int (nI 0))]) hx hb dX8_go_62 hl (by decide) rfl (fun ls hl => ?_)
          refine lv_aload_n hx hb dX8_go_64 rfl (lv_at hl 3 rfl) ?_
          refine rm_getN3 hx hb ht ui_X8 hown hK hM hR (ht _ uw_603) dX8_go_65 ?_
          rw [n3]
          refine lv_if_ne (tgt := 75) hx hb dX8_go_68 (by decide) (fun c_68 => ?_) (fun c_68 => absurd c_68 (by decide))
          refine lv_iconst (v := nI 0) hx hb dX8_go_75 (by first | rfl | decide) ?_
          refine lv_istore_n (lv' := [(3, .int (nI 0)), (4, .int (r8)), (2, .int (nI (0 + 0))), (0, .ref (Y)), (1, .int (nI 0))]) hx hb dX8_go_76 rfl hl (by decide) rfl (fun ls hl => ?_)
          refine lv_goto (tgt := 14) hx hb dX8_go_77 (by decide) ?_
          refine lv_iload_n hx hb dX8_go_14 rfl (lv_at hl 0 rfl) ?_
          refine lv_if_eq (tgt := 80) hx hb dX8_go_15 (by decide) (fun c_15 => ?_) (fun c_15 => absurd (rfl) c_15)
          refine lv_iload_n hx hb dX8_go_80 rfl (lv_at hl 2 rfl) ?_
          subst hQ
          exact m_zret hx hb hr (rfl) hlk hK hM hS dX8_go_81 (by
              refine ⟨rfl, nsq, _, _, hR, hF, ⟨n0, n1.trans h1.symm, n2, n3⟩, ?_⟩
              rw [← hw0, ← hw]
              first
                | exact Or.inr (go_1 ho60 hoF c_30)
                | exact Or.inl ⟨go_2 ho60 hoF c_30 (nI_le_of (by omega) (by omega) c_41), rfl⟩
                | exact Or.inr ⟨go_3 ho60 hpL hG, rfl⟩)
        · refine lv_aload_n hx hb dX8_go_54 rfl (lv_at hl 2 rfl) ?_
          refine lv_bipush (v := nI 59) hx hb dX8_go_55 (by first | rfl | decide) ?_
          refine lv_bipush (v := nI 59) hx hb dX8_go_57 (by first | rfl | decide) ?_
          refine m_callI (As := [.int (nI 59), .int (nI 59)]) (rest := []) ⟨hx, hb, hml, hown, ht⟩ (k_X8_sign_ok l g A M Y σ ar nsq hR L (ordC (ar 5) L q).2.1 n1 hL n2 hpL n3 (nI 59) (nI 59) hG) (cwV 2 ht (gU uw_726 uw_728 uw_26 uw_42 uw_729) rfl rfl rfl (by decide +kernel) ⟨by decide, by decide⟩) hK hM hS (m_recv hK hM (hR.1 Y (by omega) (by omega)) hR.2.1 rfl) rfl hl.1 rfl (Nat.le_of_ble_eq_true rfl) dX8_go_59 ⟨by decide, by decide⟩ (fun r8 M H locs hp hM hS => ?_)
          obtain ⟨e8, nsq, hR, hF1, m0, m1, m2, m3⟩ := hp
          have hF := hF.tr hF1
          have n0 := m0.trans n0
          have n1 := m1.trans n1
          have n2 := m2
          have n3 := m3
          refine lv_istore (lv' := [(4, .int (r8)), (3, .int (nI 1)), (2, .int (nI (0 + 0))), (0, .ref (Y)), (1, .int (nI 0))]) hx hb dX8_go_62 hl (by decide) rfl (fun ls hl => ?_)
          refine lv_aload_n hx hb dX8_go_64 rfl (lv_at hl 3 rfl) ?_
          refine rm_getN3 hx hb ht ui_X8 hown hK hM hR (ht _ uw_603) dX8_go_65 ?_
          rw [n3]
          refine lv_if_ne (tgt := 75) hx hb dX8_go_68 (by decide) (fun c_68 => absurd (rfl) c_68) (fun c_68 => ?_)
          refine lv_iconst (v := nI 1) hx hb dX8_go_71 (by first | rfl | decide) ?_
          refine lv_goto (tgt := 76) hx hb dX8_go_72 (by decide) ?_
          refine lv_istore_n (lv' := [(3, .int (nI 1)), (4, .int (r8)), (2, .int (nI (0 + 0))), (0, .ref (Y)), (1, .int (nI 0))]) hx hb dX8_go_76 rfl hl (by decide) rfl (fun ls hl => ?_)
          refine lv_goto (tgt := 14) hx hb dX8_go_77 (by decide) ?_
          refine lv_iload_n hx hb dX8_go_14 rfl (lv_at hl 0 rfl) ?_
          refine lv_if_eq (tgt := 80) hx hb dX8_go_15 (by decide) (fun c_15 => absurd c_15 (by decide)) (fun c_15 => ?_)
          obtain ⟨ok, hq4⟩ := go_4 ho60 hoF c_30 hpL (by omega) hG
          exact ih_18 (o + 1) ((ordC (ar 5) L q).2.1 + 1) _ _ _ _ _ _ (by have := ordC_ge ok; omega) (by have := ordC_ge ok; omega) (by omega) n0 n1 n2 n3 rfl (hq4.trans hw) hM hR hF hS (lv_sub hl [0, 2, 3, 4] rfl)
  exact loop_18 _ 0 0 (nI 0) _ _ _ _ _ (Nat.lt_succ_self _) (by omega) (by omega) n0 n1 n2 n3 rfl hw0.symm hM hR hF hS (lv_sub hl [0, 1, 2, 3] rfl)

set_option maxHeartbeats 4000000 in
set_option maxRecDepth 100000 in
/-- go -/
theorem k_X8_go_t (l : Launch) (g : GG) (A : Nat → Prop) (M0 : MM) (Y : Nat) (σ : Nat → Int32) (ar : Nat → Nat → Int32) (ns : Nat → Int32) (hR : RepM g A M0 Y σ ar ns) (L : Nat) (h1 : ns 1 = nI L) (hL : L ≤ 60) (hfau : fauC (ar 5) L 60 0 = none) (J : (Nat → Int32) → Prop) (hJ0 : J σ) (hJ1 : ∀ τ, J τ → ∃ n, n ≤ 20 ∧ τ 105 = nI n ∧ TI τ n ∧ 0 ≤ (τ (17 * 0 + 6)).toInt ∧ (τ (17 * 0 + 6)).toInt ≤ 33000000) (hJ2 : ∀ τ q, J τ → (ordC (ar 5) L q).1 = true → J (obM τ (ordC (ar 5) L q)).2)  : Met l yX8_go (Uw yX8_go cX8_go 5 (Option.some ClassFile.FieldType.int)) (rmD 7) (PreM [.ref (Y), .int (nI 1)] g A M0) (PosI (fun r M1 => r = (runM (ar 5) L 60 0 (nI 0) σ).1 ∧ ∃ ns1 q w, RepM g A M1 Y (runM (ar 5) L 60 0 (nI 0) σ).2 ar ns1 ∧ FrM Y M0 M1 ∧ NSs ns ns1 q w) g A) 0 0 A := by
  refine mk_Met (own := RX8) rfl rfl (by decide) (Nat.le_of_ble_eq_true rfl) ?_
  intro p e s m below meth c ls aa Q haa hQ hx hb hr hlk hml hown hts hK hM hS hl hnm
  obtain ⟨M, hMM⟩ : ∃ M, M = M0 := ⟨_, rfl⟩
  rw [← hMM] at hM hR
  have ht : ∀ w ∈ lw_good, w.before _ s = true := fun w h => hts w (List.mem_cons_of_mem _ h)
  have hF : FrM Y M0 M := by rw [hMM]; exact FrM.rf
  have hl : lv_has ls 5 [(0, .ref (Y)), (1, .int (nI 1))] := hl
  have n0 : ns 0 = ns 0 := rfl
  have n1 := h1
  refine lv_aload_n hx hb dX8_go_0 rfl (lv_at hl 0 rfl) ?_
  refine lv_iconst (v := nI 0) hx hb dX8_go_1 (by first | rfl | decide) ?_
  refine rm_putN2 hx hb ht ui_X8 hown hK hM hS hR hF (ht _ uw_602) dX8_go_2 (fun M H locs hM hR hF hS => ?_)
  obtain ⟨nsq, enq⟩ : ∃ n1, n1 = (va_up ns 2 (nI 0)) := ⟨_, rfl⟩
  rw [← enq] at hR
  have n0 : nsq 0 = ns 0 := by rw [enq]; exact n0
  have n1 : nsq 1 = nI L := by rw [enq]; exact n1
  have n2 : nsq 2 = nI 0 := by rw [enq]; rfl
  refine lv_aload_n hx hb dX8_go_5 rfl (lv_at hl 0 rfl) ?_
  refine lv_iconst (v := nI 0) hx hb dX8_go_6 (by first | rfl | decide) ?_
  refine rm_putN3 hx hb ht ui_X8 hown hK hM hS hR hF (ht _ uw_603) (⟨rfl, rfl⟩) dX8_go_7 (fun M H locs hM hR hF hS => ?_)
  obtain ⟨nsq, enq⟩ : ∃ n1, n1 = (va_up nsq 3 (nI 0)) := ⟨_, rfl⟩
  rw [← enq] at hR
  have n0 : nsq 0 = ns 0 := by rw [enq]; exact n0
  have n1 : nsq 1 = nI L := by rw [enq]; exact n1
  have n2 : nsq 2 = nI 0 := by rw [enq]; exact n2
  have n3 : nsq 3 = nI 0 := by rw [enq]; rfl
  refine lv_iconst (v := nI 0) hx hb dX8_go_10 (by first | rfl | decide) ?_
  refine lv_istore_n (lv' := [(2, .int (nI 0)), (0, .ref (Y)), (1, .int (nI 1))]) hx hb dX8_go_11 rfl hl (by decide) rfl (fun ls hl => ?_)
  refine lv_iconst (v := nI 1) hx hb dX8_go_12 (by first | rfl | decide) ?_
  refine lv_istore_n (lv' := [(3, .int (nI 1)), (2, .int (nI 0)), (0, .ref (Y)), (1, .int (nI 1))]) hx hb dX8_go_13 rfl hl (by decide) rfl (fun ls hl => ?_)
  refine lv_iload_n hx hb dX8_go_14 rfl (lv_at hl 0 rfl) ?_
  refine lv_if_eq (tgt := 80) hx hb dX8_go_15 (by decide) (fun c_15 => absurd c_15 (by decide)) (fun c_15 => ?_)
  obtain ⟨w0, hw0⟩ : ∃ w0, w0 = runM (ar 5) L 60 0 (nI 0) σ := ⟨_, rfl⟩
  have loop_18 : ∀ (z_18 : Nat) (o : Nat) (q : Nat) (t9 : Int32) (σ9 : Nat → Int32) (nsq : Nat → Int32) (M : MM) (H : Heap) (locs : List Loc) (ls : Array Slot), L - q < z_18 → 3 * o ≤ q → q ≤ L → nsq 0 = ns 0 → nsq 1 = nI L → nsq 2 = nI q → nsq 3 = nI 0 → fauC (ar 5) L (60 - o) q = none → J σ9 → runM (ar 5) L (60 - o) q t9 σ9 = w0 → HD g A M H → RepM g A M Y σ9 ar nsq → FrM Y M0 M → va_S A s.heap H locs → lv_has ls 5 [(3, .int (nI 1)), (2, .int (t9)), (0, .ref (Y)), (1, .int (nI 1))] → W p l e (rmD 7) s m aa below meth c H locs 0 0 Q (F0 m 18 ls []) := by
    intro z_18
    induction z_18 with
    | zero => intro o q t9 σ9 nsq M H locs ls hz ho hqL n0 n1 n2 n3 hfq hJ hw; exact absurd hz (Nat.not_lt_zero _)
    | succ z_18 ih_18 =>
    intro o q t9 σ9 nsq M H locs ls hz ho hqL n0 n1 n2 n3 hfq hJ hw hM hR hF hS hl
    have ho60 : o < 60 := by omega
    have ok := fau_ok ho60 hfq
    obtain ⟨n, hn20, hn, hT, c1, c2⟩ := hJ1 σ9 hJ
    refine lv_iload_n hx hb dX8_go_18 rfl (lv_at hl 1 rfl) ?_
    refine lv_aload_n hx hb dX8_go_19 rfl (lv_at hl 2 rfl) ?_
    refine lv_iload_n hx hb dX8_go_20 rfl (lv_at hl 3 rfl) ?_
    refine m_callI (As := [.int (nI 1)]) (rest := [.int (t9)]) ⟨hx, hb, hml, hown, ht⟩ (k_X8_order_t l g A M Y σ9 ar nsq hR L q n1 hL n2 (by omega) n3 ok n hn hn20 hT c1 c2) (cwV 1 ht (gU uw_718 uw_720 uw_24 uw_42 uw_721) rfl rfl rfl (by decide +kernel) ⟨by decide, by decide⟩) hK hM hS (m_recv hK hM (hR.1 Y (by omega) (by omega)) hR.2.1 rfl) rfl hl.1 rfl (Nat.le_of_ble_eq_true rfl) dX8_go_21 ⟨by decide, by decide⟩ (fun r9 M H locs hp hM hS => ?_)
    obtain ⟨e9, nsq, hR, hF1, m0, m1, m2, m3⟩ := hp
    have hF := hF.tr hF1
    have n0 := m0.trans n0
    have n1 := m1.trans n1
    have n2 := m2
    have n3 := m3
    subst e9
    refine lv_iadd hx hb dX8_go_24 ?_
    refine lv_istore_n (lv' := [(2, .int (t9 + (obM σ9 (ordC (ar 5) L q)).1)), (3, .int (nI 1)), (0, .ref (Y)), (1, .int (nI 1))]) hx hb dX8_go_25 rfl hl (by decide) rfl (fun ls hl => ?_)
    have hoq := ordC_q (ar 5) L q
    refine lv_aload_n hx hb dX8_go_26 rfl (lv_at hl 2 rfl) ?_
    refine rm_getN3 hx hb ht ui_X8 hown hK hM hR (ht _ uw_603) dX8_go_27 ?_
    rw [n3]
    refine lv_if_ne (tgt := 48) hx hb dX8_go_30 (by decide) (fun c_30 => absurd (rfl) c_30) (fun c_30 => ?_)
    refine lv_aload_n hx hb dX8_go_33 rfl (lv_at hl 2 rfl) ?_
    refine rm_getN2 hx hb ht ui_X8 hown hK hM hR (ht _ uw_602) dX8_go_34 ?_
    rw [n2]
    refine lv_aload_n hx hb dX8_go_37 rfl (lv_at hl 2 rfl) ?_
    refine rm_getN1 hx hb ht ui_X8 hown hK hM hR (ht _ uw_601) dX8_go_38 ?_
    rw [n1]
    refine lv_icmp_ge (tgt := 48) hx hb dX8_go_41 (by decide) (fun c_41 => ?_) (fun c_41 => ?_)
    · refine lv_iconst (v := nI 0) hx hb dX8_go_48 (by first | rfl | decide) ?_
      refine lv_istore_n (lv' := [(3, .int (nI 0)), (2, .int (t9 + (obM σ9 (ordC (ar 5) L q)).1)), (0, .ref (Y)), (1, .int (nI 1))]) hx hb dX8_go_49 rfl hl (by decide) rfl (fun ls hl => ?_)
      refine lv_iload_n hx hb dX8_go_50 rfl (lv_at hl 0 rfl) ?_
      refine lv_if_eq (tgt := 14) hx hb dX8_go_51 (by decide) (fun c_51 => ?_) (fun c_51 => absurd (rfl) c_51)
      refine lv_iload_n hx hb dX8_go_14 rfl (lv_at hl 0 rfl) ?_
      refine lv_if_eq (tgt := 80) hx hb dX8_go_15 (by decide) (fun c_15 => ?_) (fun c_15 => absurd (rfl) c_15)
      refine lv_iload_n hx hb dX8_go_80 rfl (lv_at hl 1 rfl) ?_
      subst hQ
      exact m_zret hx hb hr (rfl) hlk hK hM hS dX8_go_81 (by
          rw [← hw0, ← hw, rM_e ho60 ok (nI_le_of (by omega) (by omega) c_41)]
          exact ⟨rfl, nsq, _, _, hR, hF, n0, n1.trans h1.symm, n2, n3⟩)
    · have hpL : (ordC (ar 5) L q).2.1 < L := nI_lt_of (by omega) (by omega) c_41
      refine lv_iconst (v := nI 1) hx hb dX8_go_44 (by first | rfl | decide) ?_
      refine lv_goto (tgt := 49) hx hb dX8_go_45 (by decide) ?_
      refine lv_istore_n (lv' := [(3, .int (nI 1)), (2, .int (t9 + (obM σ9 (ordC (ar 5) L q)).1)), (0, .ref (Y)), (1, .int (nI 1))]) hx hb dX8_go_49 rfl hl (by decide) rfl (fun ls hl => ?_)
      refine lv_iload_n hx hb dX8_go_50 rfl (lv_at hl 0 rfl) ?_
      refine lv_if_eq (tgt := 14) hx hb dX8_go_51 (by decide) (fun c_51 => absurd c_51 (by decide)) (fun c_51 => ?_)
      refine lv_aload_n hx hb dX8_go_54 rfl (lv_at hl 2 rfl) ?_
      refine lv_bipush (v := nI 59) hx hb dX8_go_55 (by first | rfl | decide) ?_
      refine lv_bipush (v := nI 59) hx hb dX8_go_57 (by first | rfl | decide) ?_
      refine m_callI (As := [.int (nI 59), .int (nI 59)]) (rest := []) ⟨hx, hb, hml, hown, ht⟩ (k_X8_sign_ok l g A M Y ((obM σ9 (ordC (ar 5) L q)).2) ar nsq hR L (ordC (ar 5) L q).2.1 n1 hL n2 hpL n3 (nI 59) (nI 59) (fau_sep ho60 hfq hpL)) (cwV 2 ht (gU uw_726 uw_728 uw_26 uw_42 uw_729) rfl rfl rfl (by decide +kernel) ⟨by decide, by decide⟩) hK hM hS (m_recv hK hM (hR.1 Y (by omega) (by omega)) hR.2.1 rfl) rfl hl.1 rfl (Nat.le_of_ble_eq_true rfl) dX8_go_59 ⟨by decide, by decide⟩ (fun r8 M H locs hp hM hS => ?_)
      obtain ⟨e8, nsq, hR, hF1, m0, m1, m2, m3⟩ := hp
      have hF := hF.tr hF1
      have n0 := m0.trans n0
      have n1 := m1.trans n1
      have n2 := m2
      have n3 := m3
      refine lv_istore (lv' := [(4, .int (r8)), (3, .int (nI 1)), (2, .int (t9 + (obM σ9 (ordC (ar 5) L q)).1)), (0, .ref (Y)), (1, .int (nI 1))]) hx hb dX8_go_62 hl (by decide) rfl (fun ls hl => ?_)
      refine lv_aload_n hx hb dX8_go_64 rfl (lv_at hl 3 rfl) ?_
      refine rm_getN3 hx hb ht ui_X8 hown hK hM hR (ht _ uw_603) dX8_go_65 ?_
      rw [n3]
      refine lv_if_ne (tgt := 75) hx hb dX8_go_68 (by decide) (fun c_68 => absurd (rfl) c_68) (fun c_68 => ?_)
      refine lv_iconst (v := nI 1) hx hb dX8_go_71 (by first | rfl | decide) ?_
      refine lv_goto (tgt := 76) hx hb dX8_go_72 (by decide) ?_
      refine lv_istore_n (lv' := [(3, .int (nI 1)), (4, .int (r8)), (2, .int (t9 + (obM σ9 (ordC (ar 5) L q)).1)), (0, .ref (Y)), (1, .int (nI 1))]) hx hb dX8_go_76 rfl hl (by decide) rfl (fun ls hl => ?_)
      refine lv_goto (tgt := 14) hx hb dX8_go_77 (by decide) ?_
      refine lv_iload_n hx hb dX8_go_14 rfl (lv_at hl 0 rfl) ?_
      refine lv_if_eq (tgt := 80) hx hb dX8_go_15 (by decide) (fun c_15 => absurd c_15 (by decide)) (fun c_15 => ?_)
      exact ih_18 (o + 1) ((ordC (ar 5) L q).2.1 + 1) _ _ _ _ _ _ _ (by have := ordC_ge ok; omega) (by have := ordC_ge ok; omega) (by omega) n0 n1 n2 n3 (fau_nx ho60 hfq hpL (by omega)) (hJ2 σ9 q hJ ok) ((rM_s ho60 ok).trans hw) hM hR hF hS (lv_sub hl [0, 2, 3, 4] rfl)
  exact loop_18 _ 0 0 (nI 0) σ _ _ _ _ _ (Nat.lt_succ_self _) (by omega) (by omega) n0 n1 n2 n3 hfau hJ0 hw0.symm hM hR hF hS (lv_sub hl [0, 1, 2, 3] rfl)

set_option maxHeartbeats 4000000 in
set_option maxRecDepth 100000 in
/-- fault -/
theorem k_X8_fault (l : Launch) (g : GG) (A : Nat → Prop) (M0 : MM) (Y : Nat) (σ : Nat → Int32) (ar : Nat → Nat → Int32) (ns : Nat → Int32) (hR : RepM g A M0 Y σ ar ns) (L : Nat) (h1 : ns 1 = nI L) (hL : L ≤ 60)  : Met l yX8_fault (Uw yX8_fault cX8_fault 2 (Option.some ClassFile.FieldType.int)) (rmD 8) (PreM [.ref (Y)] g A M0) (PosI (fun r M1 => r = (match fauC (ar 5) L 60 0 with | none => -1000006 | some q => nI q) ∧ ∃ ns1, RepM g A M1 Y σ ar ns1 ∧ FrM Y M0 M1 ∧ ns1 0 = ns 0 ∧ ns1 1 = ns 1) g A) 0 0 A := by
  refine mk_Met (own := RX8) rfl rfl (by decide) (Nat.le_of_ble_eq_true rfl) ?_
  intro p e s m below meth c ls aa Q haa hQ hx hb hr hlk hml hown hts hK hM hS hl hnm
  obtain ⟨M, hMM⟩ : ∃ M, M = M0 := ⟨_, rfl⟩
  rw [← hMM] at hM hR
  have ht : ∀ w ∈ lw_good, w.before _ s = true := fun w h => hts w (List.mem_cons_of_mem _ h)
  have hF : FrM Y M0 M := by rw [hMM]; exact FrM.rf
  have hl : lv_has ls 2 [(0, .ref (Y))] := hl
  refine lv_aload_n hx hb dX8_fault_0 rfl (lv_at hl 0 rfl) ?_
  refine lv_iconst (v := nI 0) hx hb dX8_fault_1 (by first | rfl | decide) ?_
  refine m_callI (As := [.int (nI 0)]) (rest := []) ⟨hx, hb, hml, hown, ht⟩ (k_X8_go_f l g A M Y σ ar ns hR L h1 hL) (cwV 1 ht (gU uw_714 uw_716 uw_23 uw_42 uw_717) rfl rfl rfl (by decide +kernel) ⟨by decide, by decide⟩) hK hM hS (m_recv hK hM (hR.1 Y (by omega) (by omega)) hR.2.1 rfl) rfl hl.1 rfl (Nat.le_of_ble_eq_true rfl) dX8_fault_2 ⟨by decide, by decide⟩ (fun r9 M H locs hp hM hS => ?_)
  obtain ⟨e9, nsq, q, w, hR, hF1, ⟨n0, n1, n2, n3⟩, hfw⟩ := hp
  have hF := hF.tr hF1
  have n1 := n1.trans h1
  rcases hfw with ⟨hfau, rfl⟩ | ⟨hfau, rfl⟩
  · refine lv_istore_n (lv' := [(1, .int (r9)), (0, .ref (Y))]) hx hb dX8_fault_5 rfl hl (by decide) rfl (fun ls hl => ?_)
    refine lv_aload_n hx hb dX8_fault_6 rfl (lv_at hl 1 rfl) ?_
    refine rm_getN3 hx hb ht ui_X8 hown hK hM hR (ht _ uw_603) dX8_fault_7 ?_
    rw [n3]
    refine lv_if_eq (tgt := 20) hx hb dX8_fault_10 (by decide) (fun c_10 => ?_) (fun c_10 => absurd (rfl) c_10)
    refine lv_ldc (v := (-1000006)) hx hb hown (ht _ uw_767) dX8_fault_20 ?_
    subst hQ
    exact m_zret hx hb hr (rfl) hlk hK hM hS dX8_fault_22 (by rw [hfau]; exact ⟨rfl, nsq, hR, hF, n0, n1.trans h1.symm⟩)
  · refine lv_istore_n (lv' := [(1, .int (r9)), (0, .ref (Y))]) hx hb dX8_fault_5 rfl hl (by decide) rfl (fun ls hl => ?_)
    refine lv_aload_n hx hb dX8_fault_6 rfl (lv_at hl 1 rfl) ?_
    refine rm_getN3 hx hb ht ui_X8 hown hK hM hR (ht _ uw_603) dX8_fault_7 ?_
    rw [n3]
    refine lv_if_eq (tgt := 20) hx hb dX8_fault_10 (by decide) (fun c_10 => absurd c_10 (by decide)) (fun c_10 => ?_)
    refine lv_aload_n hx hb dX8_fault_13 rfl (lv_at hl 1 rfl) ?_
    refine rm_getN2 hx hb ht ui_X8 hown hK hM hR (ht _ uw_602) dX8_fault_14 ?_
    rw [n2]
    refine lv_goto (tgt := 22) hx hb dX8_fault_17 (by decide) ?_
    subst hQ
    exact m_zret hx hb hr (rfl) hlk hK hM hS dX8_fault_22 (by rw [hfau]; exact ⟨rfl, nsq, hR, hF, n0, n1.trans h1.symm⟩)

set_option maxHeartbeats 4000000 in
set_option maxRecDepth 100000 in
/-- run -/
theorem k_X8_run (l : Launch) (g : GG) (A : Nat → Prop) (M0 : MM) (Y : Nat) (σ : Nat → Int32) (ar : Nat → Nat → Int32) (ns : Nat → Int32) (hR : RepM g A M0 Y σ ar ns) (L : Nat) (h1 : ns 1 = nI L) (hL : L ≤ 60) (k : Nat) (hk : k ≤ 6) (hkn : ns 0 = nI k) (J : (Nat → Int32) → Prop) (hJ0 : J σ) (hJ1 : ∀ τ, J τ → ∃ n, n ≤ 20 ∧ τ 105 = nI n ∧ TI τ n ∧ 0 ≤ (τ (17 * 0 + 6)).toInt ∧ (τ (17 * 0 + 6)).toInt ≤ 33000000) (hJ2 : ∀ τ q, J τ → (ordC (ar 5) L q).1 = true → J (obM τ (ordC (ar 5) L q)).2)  : Met l yX8_run (Uw yX8_run cX8_run 3 (Option.some ClassFile.FieldType.int)) (rmD 8) (PreM [.ref (Y)] g A M0) (PosI (fun r M1 => (fauC (ar 5) L 60 0 = none → r = (runM (ar 5) L 60 0 (nI 0) σ).1 ∧ ∃ ns1, RepM g A M1 Y (runM (ar 5) L 60 0 (nI 0) σ).2 (va_up ar 2 (savB k (ar 2) σ)) ns1 ∧ FrM Y M0 M1 ∧ ns1 0 = nI (recK k) ∧ ns1 1 = nI 0) ∧ (¬ fauC (ar 5) L 60 0 = none → r = -1000003 ∧ ∃ ns1, RepM g A M1 Y σ ar ns1 ∧ FrM Y M0 M1 ∧ ns1 0 = ns 0 ∧ ns1 1 = ns 1)) g A) 0 0 A := by
  refine mk_Met (own := RX8) rfl rfl (by decide) (Nat.le_of_ble_eq_true rfl) ?_
  intro p e s m below meth c ls aa Q haa hQ hx hb hr hlk hml hown hts hK hM hS hl hnm
  obtain ⟨M, hMM⟩ : ∃ M, M = M0 := ⟨_, rfl⟩
  rw [← hMM] at hM hR
  have ht : ∀ w ∈ lw_good, w.before _ s = true := fun w h => hts w (List.mem_cons_of_mem _ h)
  have hF : FrM Y M0 M := by rw [hMM]; exact FrM.rf
  have hl : lv_has ls 3 [(0, .ref (Y))] := hl
  refine lv_aload_n hx hb dX8_run_0 rfl (lv_at hl 0 rfl) ?_
  refine lv_iconst (v := nI 0) hx hb dX8_run_1 (by first | rfl | decide) ?_
  refine m_callI (As := [.int (nI 0)]) (rest := []) ⟨hx, hb, hml, hown, ht⟩ (k_X8_go_f l g A M Y σ ar ns hR L h1 hL) (cwV 1 ht (gU uw_714 uw_716 uw_23 uw_42 uw_717) rfl rfl rfl (by decide +kernel) ⟨by decide, by decide⟩) hK hM hS (m_recv hK hM (hR.1 Y (by omega) (by omega)) hR.2.1 rfl) rfl hl.1 rfl (Nat.le_of_ble_eq_true rfl) dX8_run_2 ⟨by decide, by decide⟩ (fun r9 M H locs hp hM hS => ?_)
  obtain ⟨e9, nsq, q, w, hR, hF1, ⟨n0, n1, n2, n3⟩, hfw⟩ := hp
  have hF := hF.tr hF1
  have n1 := n1.trans h1
  rcases hfw with ⟨hfau, rfl⟩ | ⟨hfau, rfl⟩
  · refine lv_istore_n (lv' := [(1, .int (r9)), (0, .ref (Y))]) hx hb dX8_run_5 rfl hl (by decide) rfl (fun ls hl => ?_)
    refine lv_aload_n hx hb dX8_run_6 rfl (lv_at hl 1 rfl) ?_
    refine rm_getN3 hx hb ht ui_X8 hown hK hM hR (ht _ uw_603) dX8_run_7 ?_
    rw [n3]
    refine lv_if_eq (tgt := 16) hx hb dX8_run_10 (by decide) (fun c_10 => ?_) (fun c_10 => absurd (rfl) c_10)
    refine lv_aload_n hx hb dX8_run_16 rfl (lv_at hl 1 rfl) ?_
    refine m_callV (As := []) (rest := []) ⟨hx, hb, hml, hown, ht⟩ (k_X8_save0 l g A M Y σ ar nsq hR k hk (n0.trans hkn)) (cwV 0 ht (gU uw_634 uw_636 uw_11 uw_42 uw_637) rfl rfl rfl (by decide +kernel) ⟨by decide, by decide⟩) hK hM hS (m_recv hK hM (hR.1 Y (by omega) (by omega)) hR.2.1 rfl) rfl hl.1 rfl (Nat.le_of_ble_eq_true rfl) dX8_run_17 ⟨by decide, by decide⟩ (fun M H locs hp hM hS => ?_)
    obtain ⟨hR, hF1⟩ := hp
    have hF := hF.tr hF1
    refine lv_aload_n hx hb dX8_run_20 rfl (lv_at hl 1 rfl) ?_
    refine lv_iconst (v := nI 1) hx hb dX8_run_21 (by first | rfl | decide) ?_
    refine m_callI (As := [.int (nI 1)]) (rest := []) ⟨hx, hb, hml, hown, ht⟩ (k_X8_go_t l g A M Y σ (va_up ar 2 (savB k (ar 2) σ)) (va_up nsq 0 (nI (recK k))) hR L n1 hL hfau J hJ0 hJ1 hJ2) (cwV 1 ht (gU uw_714 uw_716 uw_23 uw_42 uw_717) rfl rfl rfl (by decide +kernel) ⟨by decide, by decide⟩) hK hM hS (m_recv hK hM (hR.1 Y (by omega) (by omega)) hR.2.1 rfl) rfl hl.1 rfl (Nat.le_of_ble_eq_true rfl) dX8_run_22 ⟨by decide, by decide⟩ (fun r8 M H locs hp hM hS => ?_)
    obtain ⟨e8, nsp, q8, w8, hR, hF1, p0, p1, p2, p3⟩ := hp
    have hF := hF.tr hF1
    subst e8
    refine lv_istore_n (lv' := [(2, .int ((runM (ar 5) L 60 0 (nI 0) σ).1)), (1, .int (r9)), (0, .ref (Y))]) hx hb dX8_run_25 rfl hl (by decide) rfl (fun ls hl => ?_)
    refine lv_aload_n hx hb dX8_run_26 rfl (lv_at hl 2 rfl) ?_
    refine lv_iconst (v := nI 0) hx hb dX8_run_27 (by first | rfl | decide) ?_
    refine rm_putN1 hx hb ht ui_X8 hown hK hM hS hR hF (ht _ uw_601) dX8_run_28 (fun M H locs hM hR hF hS => ?_)
    refine lv_iload_n hx hb dX8_run_31 rfl (lv_at hl 0 rfl) ?_
    subst hQ
    exact m_zret hx hb hr (rfl) hlk hK hM hS dX8_run_32 (⟨fun _ => ⟨rfl, _, hR, hF, p0, rfl⟩, fun z => absurd hfau z⟩)
  · refine lv_istore_n (lv' := [(1, .int (r9)), (0, .ref (Y))]) hx hb dX8_run_5 rfl hl (by decide) rfl (fun ls hl => ?_)
    refine lv_aload_n hx hb dX8_run_6 rfl (lv_at hl 1 rfl) ?_
    refine rm_getN3 hx hb ht ui_X8 hown hK hM hR (ht _ uw_603) dX8_run_7 ?_
    rw [n3]
    refine lv_if_eq (tgt := 16) hx hb dX8_run_10 (by decide) (fun c_10 => absurd c_10 (by decide)) (fun c_10 => ?_)
    refine lv_ldc (v := (-1000003)) hx hb hown (ht _ uw_730) dX8_run_13 ?_
    subst hQ
    exact m_zret hx hb hr (rfl) hlk hK hM hS dX8_run_15 (⟨fun z => absurd (hfau.symm.trans z) (by simp), fun _ => ⟨rfl, nsq, hR, hF, n0, n1.trans h1.symm⟩⟩)
