theorem com_1 {σ : Nat → Int32} {u k i : Nat} (c : σ (106 + 6 * k + 3) ≤ σ 104) (e : σ (106 + 6 * k) = nI i) (hi : i < 2 ^ 31) : comC u k (drM k (k + u + 1) (telC σ i (σ (106 + 6 * k + 1)) (σ (106 + 6 * k + 2)) (σ (106 + 6 * k + 4)) (σ (106 + 6 * k + 5)))) = comC (u + 1) k σ := by
  show _ = if σ (106 + 6 * k + 3) ≤ σ 104 then _ else _
  rw [if_pos c, e, nI_clamp hi]
theorem com_2 {σ : Nat → Int32} {u k : Nat} (c : σ 104 < σ (106 + 6 * k + 3)) : comC u (k + 1) σ = comC (u + 1) k σ := (if_neg (Int32.not_le.mpr c)).symm
theorem snd_105 {σ : Nat → Int32} {n : Nat} (hn : σ 105 = nI n) (hlt : n < 20) {a b c d e f : Int32} : (va_up (va_up (va_up (va_up (va_up (va_up σ (106 + 6 * n) a) (106 + 6 * n + 1) b) (106 + 6 * n + 2) c) (106 + 6 * n + 3) d) (106 + 6 * n + 4) e) (106 + 6 * n + 5) f) 105 = nI n := by
  rw [va_up_ne _ _ (by omega), va_up_ne _ _ (by omega), va_up_ne _ _ (by omega), va_up_ne _ _ (by omega), va_up_ne _ _ (by omega), va_up_ne _ _ (by omega)]
  exact hn
theorem cat_nz {σ : Nat → Int32} {n i : Nat} (T : TI σ n) (hi : i < 6) {am c : Int32} : ¬ (va_up (va_up (catML am σ i) (17 * i + 6) (catML am σ i (17 * i + 6) + c)) (17 * i + 4) (va_up (catML am σ i) (17 * i + 6) (catML am σ i (17 * i + 6) + c) (17 * i + 4) + c)) (17 * i + 1) = 0 := by
  rw [va_up_ne _ _ (by omega), va_up_ne _ _ (by omega)]
  intro q
  have := (T.catML am i (by omega)).2.2.1 i hi
  rw [q] at this
  exact absurd this.1 (by decide)
theorem hou_eq {am : Int32} {σ : Nat → Int32} {q n : Nat} (hn : pasM am σ q 105 = nI n) (h : n ≤ 20) : pasM am σ (q + 1) = comC n 0 (ho1M am (pasM am σ q)) := by
  show comC (pasM am σ q 105).toNatClampNeg 0 _ = _
  rw [hn, nI_clamp (by omega)]
set_option maxHeartbeats 4000000 in
set_option maxRecDepth 100000 in
/-- come -/
theorem k_X8_come (l : Launch) (g : GG) (A : Nat → Prop) (M0 : MM) (Y : Nat) (σ : Nat → Int32) (ar : Nat → Nat → Int32) (ns : Nat → Int32) (hR : RepM g A M0 Y σ ar ns) (n : Nat) (hn : σ 105 = nI n) (hn20 : n ≤ 20) (hT : TI σ n)  : Met l yX8_come (Uw yX8_come cX8_come 2 (Option.none : Option ClassFile.FieldType)) (rmD 3) (PreM [.ref (Y)] g A M0) (PosV (fun M1 => RepM g A M1 Y (comC n 0 σ) (ar) (ns) ∧ FrM Y M0 M1) g A) 0 0 A := by
  refine mk_Met (own := RX8) rfl rfl (by decide) (Nat.le_of_ble_eq_true rfl) ?_
  intro p e s m below meth c ls aa Q haa hQ hx hb hr hlk hml hown hts hK hM hS hl hnm
  obtain ⟨M, hMM⟩ : ∃ M, M = M0 := ⟨_, rfl⟩
  rw [← hMM] at hM hR
  have ht : ∀ w ∈ lw_good, w.before _ s = true := fun w h => hts w (List.mem_cons_of_mem _ h)
  have hF : FrM Y M0 M := by rw [hMM]; exact FrM.rf
  have hl : lv_has ls 2 [(0, .ref (Y))] := hl
  obtain ⟨w0, hw0⟩ : ∃ w0, w0 = comC n 0 σ := ⟨_, rfl⟩
  rw [← hw0] at hQ
  refine lv_iconst (v := nI 0) hx hb dX8_come_0 (by first | rfl | decide) ?_
  refine lv_istore_n (lv' := [(1, .int (nI 0)), (0, .ref (Y))]) hx hb dX8_come_1 rfl hl (by decide) rfl (fun ls hl => ?_)
  have loop_2 : ∀ (z_2 : Nat) (k : Nat) (y9 : Nat) (σ : Nat → Int32) (M : MM) (H : Heap) (locs : List Loc) (ls : Array Slot), y9 < z_2 → σ 105 = nI (k + y9) → k + y9 ≤ 20 → TI σ (k + y9) → comC y9 k σ = w0 → HD g A M H → RepM g A M Y σ ar ns → FrM Y M0 M → va_S A s.heap H locs → lv_has ls 2 [(1, .int (nI k)), (0, .ref (Y))] → W p l e (rmD 3) s m aa below meth c H locs 0 0 Q (F0 m 2 ls []) := by
    intro z_2
    induction z_2 with
    | zero => intro k y9 σ M H locs ls hz hn hn20 hT hw; exact absurd hz (Nat.not_lt_zero _)
    | succ z_2 ih_2 =>
    intro k y9 σ M H locs ls hz hn hn20 hT hw hM hR hF hS hl
    refine lv_iload_n hx hb dX8_come_2 rfl (lv_at hl 0 rfl) ?_
    refine lv_aload_n hx hb dX8_come_3 rfl (lv_at hl 1 rfl) ?_
    refine rm_getS hx hb ht ui_X8 hown hK hM hR (ht _ uw_594) dX8_come_4 ?_
    refine lv_bipush (v := nI 105) hx hb dX8_come_7 (by first | rfl | decide) ?_
    refine rm_sald hx hb hK hM hR (i := 105) (by omega) dX8_come_9 ?_
    rw [hn]
    refine lv_icmp_ge (tgt := 77) hx hb dX8_come_10 (by decide) (fun c_10 => ?_) (fun c_10 => ?_)
    · have hy : y9 = 0 := by have z := nI_le_of (by omega) (by omega) c_10; omega
      subst hy
      subst hQ
      exact m_vret hx hb hr hlk hK hM hS dX8_come_77 (⟨hR.eqv hw.symm rfl rfl, hF⟩)
    · obtain ⟨u, hu⟩ : ∃ u, y9 = u + 1 := ⟨y9 - 1, by have z := nI_lt_of (by omega) (by omega) c_10; omega⟩
      subst hu
      obtain ⟨i, hi, ei⟩ := hT.2.2.2.2.2.1 k (by omega)
      have b1 := hT.2.2.2.2.2.2.1 k (by omega)
      have b5 := hT.2.2.2.2.2.2.2 k (by omega)
      refine lv_aload_n hx hb dX8_come_13 rfl (lv_at hl 1 rfl) ?_
      refine lv_iload_n hx hb dX8_come_14 rfl (lv_at hl 0 rfl) ?_
      refine lv_iconst (v := nI 3) hx hb dX8_come_15 (by first | rfl | decide) ?_
      refine m_callRI (val := σ (106 + 6 * k + 3)) (As := [.int (nI k), .int (nI 3)]) (rest := []) ⟨hx, hb, hml, hown, ht⟩ (k_X8_runnerOf l g A M Y σ ar ns hR k 3 (by omega)) (cwV 2 ht (gU uw_638 uw_640 uw_12 uw_42 uw_641) rfl rfl rfl (by decide +kernel) ⟨by decide, by decide⟩) hK hM hS (m_recv hK hM (hR.1 Y (by omega) (by omega)) hR.2.1 rfl) rfl hl.1 rfl (Nat.le_of_ble_eq_true rfl) dX8_come_16 ⟨by decide, by decide⟩ (fun H locs hM hS => ?_)
      refine lv_aload_n hx hb dX8_come_19 rfl (lv_at hl 1 rfl) ?_
      refine rm_getS hx hb ht ui_X8 hown hK hM hR (ht _ uw_594) dX8_come_20 ?_
      refine lv_bipush (v := nI 104) hx hb dX8_come_23 (by first | rfl | decide) ?_
      refine rm_sald hx hb hK hM hR (i := 104) (by omega) dX8_come_25 ?_
      refine lv_icmp_gt (tgt := 71) hx hb dX8_come_26 (by decide) (fun c_26 => ?_) (fun c_26 => ?_)
      · refine lv_iinc (v := nI (k + 1)) (lv' := [(1, .int (nI (k + 1))), (0, .ref (Y))]) hx hb dX8_come_71 hl (k := 0) rfl (nI_1 k) (by decide) rfl (fun ls hl => ?_)
        refine lv_goto (tgt := 2) hx hb dX8_come_74 (by decide) ?_
        exact ih_2 (k + 1) u _ _ _ _ _ (by omega) (by rw [show σ 105 = nI (k + (u + 1)) from hn]; congr 1; omega) (by omega) (by rw [show k + 1 + u = k + (u + 1) by omega]; exact hT) (by rw [← hw]; exact com_2 c_26) hM hR hF hS (lv_sub hl [0, 1] rfl)
      · refine lv_aload_n hx hb dX8_come_29 rfl (lv_at hl 1 rfl) ?_
        refine lv_aload_n hx hb dX8_come_30 rfl (lv_at hl 1 rfl) ?_
        refine lv_iload_n hx hb dX8_come_31 rfl (lv_at hl 0 rfl) ?_
        refine lv_iconst (v := nI 0) hx hb dX8_come_32 (by first | rfl | decide) ?_
        refine m_callRI (val := nI i) (As := [.int (nI k), .int (nI 0)]) (rest := [.ref (Y)]) ⟨hx, hb, hml, hown, ht⟩ ((by have z := k_X8_runnerOf l g A M Y σ ar ns hR k 0 (by omega); rw [show σ (106 + 6 * k + 0) = nI i from ei] at z; exact z)) (cwV 2 ht (gU uw_638 uw_640 uw_12 uw_42 uw_641) rfl rfl rfl (by decide +kernel) ⟨by decide, by decide⟩) hK hM hS (m_recv hK hM (hR.1 Y (by omega) (by omega)) hR.2.1 rfl) rfl hl.1 rfl (Nat.le_of_ble_eq_true rfl) dX8_come_33 ⟨by decide, by decide⟩ (fun H locs hM hS => ?_)
        refine lv_aload_n hx hb dX8_come_36 rfl (lv_at hl 1 rfl) ?_
        refine lv_iload_n hx hb dX8_come_37 rfl (lv_at hl 0 rfl) ?_
        refine lv_iconst (v := nI 1) hx hb dX8_come_38 (by first | rfl | decide) ?_
        refine m_callRI (val := σ (106 + 6 * k + 1)) (As := [.int (nI k), .int (nI 1)]) (rest := [.int (nI i), .ref (Y)]) ⟨hx, hb, hml, hown, ht⟩ (k_X8_runnerOf l g A M Y σ ar ns hR k 1 (by omega)) (cwV 2 ht (gU uw_638 uw_640 uw_12 uw_42 uw_641) rfl rfl rfl (by decide +kernel) ⟨by decide, by decide⟩) hK hM hS (m_recv hK hM (hR.1 Y (by omega) (by omega)) hR.2.1 rfl) rfl hl.1 rfl (Nat.le_of_ble_eq_true rfl) dX8_come_39 ⟨by decide, by decide⟩ (fun H locs hM hS => ?_)
        refine lv_aload_n hx hb dX8_come_42 rfl (lv_at hl 1 rfl) ?_
        refine lv_iload_n hx hb dX8_come_43 rfl (lv_at hl 0 rfl) ?_
        refine lv_iconst (v := nI 2) hx hb dX8_come_44 (by first | rfl | decide) ?_
        refine m_callRI (val := σ (106 + 6 * k + 2)) (As := [.int (nI k), .int (nI 2)]) (rest := [.int (σ (106 + 6 * k + 1)), .int (nI i), .ref (Y)]) ⟨hx, hb, hml, hown, ht⟩ (k_X8_runnerOf l g A M Y σ ar ns hR k 2 (by omega)) (cwV 2 ht (gU uw_638 uw_640 uw_12 uw_42 uw_641) rfl rfl rfl (by decide +kernel) ⟨by decide, by decide⟩) hK hM hS (m_recv hK hM (hR.1 Y (by omega) (by omega)) hR.2.1 rfl) rfl hl.1 rfl (Nat.le_of_ble_eq_true rfl) dX8_come_45 ⟨by decide, by decide⟩ (fun H locs hM hS => ?_)
        refine lv_aload_n hx hb dX8_come_48 rfl (lv_at hl 1 rfl) ?_
        refine lv_iload_n hx hb dX8_come_49 rfl (lv_at hl 0 rfl) ?_
        refine lv_iconst (v := nI 4) hx hb dX8_come_50 (by first | rfl | decide) ?_
        refine m_callRI (val := σ (106 + 6 * k + 4)) (As := [.int (nI k), .int (nI 4)]) (rest := [.int (σ (106 + 6 * k + 2)), .int (σ (106 + 6 * k + 1)), .int (nI i), .ref (Y)]) ⟨hx, hb, hml, hown, ht⟩ (k_X8_runnerOf l g A M Y σ ar ns hR k 4 (by omega)) (cwV 2 ht (gU uw_638 uw_640 uw_12 uw_42 uw_641) rfl rfl rfl (by decide +kernel) ⟨by decide, by decide⟩) hK hM hS (m_recv hK hM (hR.1 Y (by omega) (by omega)) hR.2.1 rfl) rfl hl.1 rfl (Nat.le_of_ble_eq_true rfl) dX8_come_51 ⟨by decide, by decide⟩ (fun H locs hM hS => ?_)
        refine lv_aload_n hx hb dX8_come_54 rfl (lv_at hl 1 rfl) ?_
        refine lv_iload_n hx hb dX8_come_55 rfl (lv_at hl 0 rfl) ?_
        refine lv_iconst (v := nI 5) hx hb dX8_come_56 (by first | rfl | decide) ?_
        refine m_callRI (val := σ (106 + 6 * k + 5)) (As := [.int (nI k), .int (nI 5)]) (rest := [.int (σ (106 + 6 * k + 4)), .int (σ (106 + 6 * k + 2)), .int (σ (106 + 6 * k + 1)), .int (nI i), .ref (Y)]) ⟨hx, hb, hml, hown, ht⟩ (k_X8_runnerOf l g A M Y σ ar ns hR k 5 (by omega)) (cwV 2 ht (gU uw_638 uw_640 uw_12 uw_42 uw_641) rfl rfl rfl (by decide +kernel) ⟨by decide, by decide⟩) hK hM hS (m_recv hK hM (hR.1 Y (by omega) (by omega)) hR.2.1 rfl) rfl hl.1 rfl (Nat.le_of_ble_eq_true rfl) dX8_come_57 ⟨by decide, by decide⟩ (fun H locs hM hS => ?_)
        refine m_callV (As := [.int (nI i), .int (σ (106 + 6 * k + 1)), .int (σ (106 + 6 * k + 2)), .int (σ (106 + 6 * k + 4)), .int (σ (106 + 6 * k + 5))]) (rest := []) ⟨hx, hb, hml, hown, ht⟩ (k_X8_tell l g A M Y σ ar ns hR i (σ (106 + 6 * k + 1)) (σ (106 + 6 * k + 2)) (σ (106 + 6 * k + 4)) (σ (106 + 6 * k + 5)) hi (hT.TB hi b1.1 b1.2 b5.1 b5.2)) (cwV 5 ht (gU uw_683 uw_685 uw_20 uw_42 uw_686) rfl rfl rfl (by decide +kernel) ⟨by decide, by decide⟩) hK hM hS (m_recv hK hM (hR.1 Y (by omega) (by omega)) hR.2.1 rfl) rfl hl.1 rfl (Nat.le_of_ble_eq_true rfl) dX8_come_60 ⟨by decide, by decide⟩ (fun M H locs hp hM hS => ?_)
        obtain ⟨hR, hF1⟩ := hp
        have hF := hF.tr hF1
        refine lv_aload_n hx hb dX8_come_63 rfl (lv_at hl 1 rfl) ?_
        refine lv_iload_n hx hb dX8_come_64 rfl (lv_at hl 0 rfl) ?_
        refine m_callV (As := [.int (nI k)]) (rest := []) ⟨hx, hb, hml, hown, ht⟩ (k_X8_drop l g A M Y (telC σ i (σ (106 + 6 * k + 1)) (σ (106 + 6 * k + 2)) (σ (106 + 6 * k + 4)) (σ (106 + 6 * k + 5))) ar ns hR k (k + u + 1) ((telC_o hi (by omega)).trans hn) (by omega) (by omega)) (cwV 1 ht (gU uw_646 uw_648 uw_14 uw_42 uw_649) rfl rfl rfl (by decide +kernel) ⟨by decide, by decide⟩) hK hM hS (m_recv hK hM (hR.1 Y (by omega) (by omega)) hR.2.1 rfl) rfl hl.1 rfl (Nat.le_of_ble_eq_true rfl) dX8_come_65 ⟨by decide, by decide⟩ (fun M H locs hp hM hS => ?_)
        obtain ⟨hR, hF1⟩ := hp
        have hF := hF.tr hF1
        refine lv_goto (tgt := 2) hx hb dX8_come_68 (by decide) ?_
        exact ih_2 k u _ _ _ _ _ (by omega) (by rw [drM_105]; rfl) (by omega) ((hT.telC hi b1.1 b1.2 b5.1 b5.2).drM (by omega)) (by rw [← hw]; exact com_1 (Int32.not_lt.mp c_26) ei (by omega)) hM hR hF hS (lv_sub hl [0, 1] rfl)
  exact loop_2 _ 0 n σ _ _ _ _ (Nat.lt_succ_self _) (by rw [hn, Nat.zero_add]) (by omega) (by rw [Nat.zero_add]; exact hT) hw0.symm hM hR hF hS (lv_sub hl [0, 1] rfl)

set_option maxHeartbeats 4000000 in
set_option maxRecDepth 100000 in
/-- sends -/
theorem k_X8_sends (l : Launch) (g : GG) (A : Nat → Prop) (M0 : MM) (Y : Nat) (σ : Nat → Int32) (ar : Nat → Nat → Int32) (ns : Nat → Int32) (hR : RepM g A M0 Y σ ar ns) (i : Nat) (n : Nat) (hn : σ 105 = nI n) (hn20 : n ≤ 20) (hT : TI σ n) (hi : i < 6) (c1 : 0 ≤ (σ (17 * 0 + 6)).toInt) (c2 : (σ (17 * 0 + 6)).toInt ≤ 33000000)  : Met l yX8_sends (Uw yX8_sends cX8_sends 4 (Option.some ClassFile.FieldType.int)) (rmD 4) (PreM [.ref (Y), .int (nI i)] g A M0) (PosI (fun r M1 => (n < 20 → r = whM σ i ∧ RepM g A M1 Y (comC (n + 1) 0 (sndC σ i n)) ar ns ∧ FrM Y M0 M1) ∧ (¬ n < 20 → r = -1000004 ∧ M1 = M0)) g A) 0 0 A := by
  refine mk_Met (own := RX8) rfl rfl (by decide) (Nat.le_of_ble_eq_true rfl) ?_
  intro p e s m below meth c ls aa Q haa hQ hx hb hr hlk hml hown hts hK hM hS hl hnm
  obtain ⟨M, hMM⟩ : ∃ M, M = M0 := ⟨_, rfl⟩
  rw [← hMM] at hM hR
  have ht : ∀ w ∈ lw_good, w.before _ s = true := fun w h => hts w (List.mem_cons_of_mem _ h)
  have hF : FrM Y M0 M := by rw [hMM]; exact FrM.rf
  have hl : lv_has ls 4 [(0, .ref (Y)), (1, .int (nI i))] := hl
  have hW0 : ¬ σ 102 = 0 := by
    obtain ⟨w0, q1, q2, q3⟩ := hT.1
    rw [q3]
    exact nI_ne0 (by omega) (by omega)
  by_cases hlt : n < 20
  · refine lv_aload_n hx hb dX8_sends_0 rfl (lv_at hl 0 rfl) ?_
    refine rm_getS hx hb ht ui_X8 hown hK hM hR (ht _ uw_594) dX8_sends_1 ?_
    refine lv_bipush (v := nI 105) hx hb dX8_sends_4 (by first | rfl | decide) ?_
    refine rm_sald hx hb hK hM hR (i := 105) (by omega) dX8_sends_6 ?_
    rw [hn]
    refine lv_bipush (v := nI 20) hx hb dX8_sends_7 (by first | rfl | decide) ?_
    refine lv_icmp_ne (tgt := 15) hx hb dX8_sends_9 (by decide) (fun c_9 => ?_) (fun c_9 => absurd c_9 (fun z => absurd ((nI_eq (by omega) (by decide)).mp z) (by omega)))
    refine lv_bipush (v := nI 106) hx hb dX8_sends_15 (by first | rfl | decide) ?_
    refine lv_bipush (v := nI 6) hx hb dX8_sends_17 (by first | rfl | decide) ?_
    refine lv_aload_n hx hb dX8_sends_19 rfl (lv_at hl 0 rfl) ?_
    refine rm_getS hx hb ht ui_X8 hown hK hM hR (ht _ uw_594) dX8_sends_20 ?_
    refine lv_bipush (v := nI 105) hx hb dX8_sends_23 (by first | rfl | decide) ?_
    refine rm_sald hx hb hK hM hR (i := 105) (by omega) dX8_sends_25 ?_
    rw [hn]
    refine lv_imul hx hb dX8_sends_26 ?_
    rw [pk_mul (6) (n)]
    refine lv_iadd hx hb dX8_sends_27 ?_
    rw [nI_add (106) ((6 * n))]
    refine lv_istore_n (lv' := [(2, .int (nI (106 + (6 * n)))), (0, .ref (Y)), (1, .int (nI i))]) hx hb dX8_sends_28 rfl hl (by decide) rfl (fun ls hl => ?_)
    refine lv_aload_n hx hb dX8_sends_29 rfl (lv_at hl 1 rfl) ?_
    refine lv_iload_n hx hb dX8_sends_30 rfl (lv_at hl 2 rfl) ?_
    refine m_callRI (val := whM σ i) (As := [.int (nI i)]) (rest := []) ⟨hx, hb, hml, hown, ht⟩ (k_X8_wheel l g A M Y σ ar ns hR i hi hW0) (cwV 1 ht (gU uw_698 uw_700 uw_22 uw_42 uw_701) rfl rfl rfl (by decide +kernel) ⟨by decide, by decide⟩) hK hM hS (m_recv hK hM (hR.1 Y (by omega) (by omega)) hR.2.1 rfl) rfl hl.1 rfl (Nat.le_of_ble_eq_true rfl) dX8_sends_31 ⟨by decide, by decide⟩ (fun H locs hM hS => ?_)
    refine lv_istore_n (lv' := [(3, .int (whM σ i)), (2, .int (nI (106 + (6 * n)))), (0, .ref (Y)), (1, .int (nI i))]) hx hb dX8_sends_34 rfl hl (by decide) rfl (fun ls hl => ?_)
    refine lv_aload_n hx hb dX8_sends_35 rfl (lv_at hl 2 rfl) ?_
    refine rm_getS hx hb ht ui_X8 hown hK hM hR (ht _ uw_594) dX8_sends_36 ?_
    refine lv_iload_n hx hb dX8_sends_39 rfl (lv_at hl 1 rfl) ?_
    refine lv_iload_n hx hb dX8_sends_40 rfl (lv_at hl 3 rfl) ?_
    refine rm_sast hx hb hK hM hS hR hF (i := (106 + (6 * n))) (by omega) dX8_sends_41 (fun M H locs hM hR hF hS => ?_)
    refine lv_aload_n hx hb dX8_sends_42 rfl (lv_at hl 2 rfl) ?_
    refine rm_getS hx hb ht ui_X8 hown hK hM hR (ht _ uw_594) dX8_sends_43 ?_
    refine lv_iload_n hx hb dX8_sends_46 rfl (lv_at hl 1 rfl) ?_
    refine lv_iconst (v := nI 1) hx hb dX8_sends_47 (by first | rfl | decide) ?_
    refine lv_iadd hx hb dX8_sends_48 ?_
    rw [nI_add ((106 + (6 * n))) (1)]
    refine lv_iload_n hx hb dX8_sends_49 rfl (lv_at hl 0 rfl) ?_
    refine rm_sast hx hb hK hM hS hR hF (i := ((106 + (6 * n)) + 1)) (by omega) dX8_sends_50 (fun M H locs hM hR hF hS => ?_)
    refine lv_aload_n hx hb dX8_sends_51 rfl (lv_at hl 2 rfl) ?_
    refine rm_getS hx hb ht ui_X8 hown hK hM hR (ht _ uw_594) dX8_sends_52 ?_
    refine lv_iload_n hx hb dX8_sends_55 rfl (lv_at hl 1 rfl) ?_
    refine lv_iconst (v := nI 2) hx hb dX8_sends_56 (by first | rfl | decide) ?_
    refine lv_iadd hx hb dX8_sends_57 ?_
    rw [nI_add ((106 + (6 * n))) (2)]
    refine lv_aload_n hx hb dX8_sends_58 rfl (lv_at hl 2 rfl) ?_
    refine rm_getS hx hb ht ui_X8 hown hK hM hR (ht _ uw_594) dX8_sends_59 ?_
    refine lv_bipush (v := nI 104) hx hb dX8_sends_62 (by first | rfl | decide) ?_
    refine rm_sald hx hb hK hM hR (i := 104) (by omega) dX8_sends_64 ?_
    refine rm_sast hx hb hK hM hS hR hF (i := ((106 + (6 * n)) + 2)) (by omega) dX8_sends_65 (fun M H locs hM hR hF hS => ?_)
    refine lv_aload_n hx hb dX8_sends_66 rfl (lv_at hl 2 rfl) ?_
    refine rm_getS hx hb ht ui_X8 hown hK hM hR (ht _ uw_594) dX8_sends_67 ?_
    refine lv_iload_n hx hb dX8_sends_70 rfl (lv_at hl 1 rfl) ?_
    refine lv_iconst (v := nI 3) hx hb dX8_sends_71 (by first | rfl | decide) ?_
    refine lv_iadd hx hb dX8_sends_72 ?_
    rw [nI_add ((106 + (6 * n))) (3)]
    refine lv_aload_n hx hb dX8_sends_73 rfl (lv_at hl 2 rfl) ?_
    refine rm_getS hx hb ht ui_X8 hown hK hM hR (ht _ uw_594) dX8_sends_74 ?_
    refine lv_bipush (v := nI 104) hx hb dX8_sends_77 (by first | rfl | decide) ?_
    refine rm_sald hx hb hK hM hR (i := 104) (by omega) dX8_sends_79 ?_
    refine lv_aload_n hx hb dX8_sends_80 rfl (lv_at hl 2 rfl) ?_
    refine lv_iload_n hx hb dX8_sends_81 rfl (lv_at hl 3 rfl) ?_
    refine lv_iconst (v := nI 3) hx hb dX8_sends_82 (by first | rfl | decide) ?_
    refine m_callRI (val := (va_up (va_up (va_up σ (106 + (6 * n)) (nI i)) ((106 + (6 * n)) + 1) (whM σ i)) ((106 + (6 * n)) + 2) ((va_up (va_up σ (106 + (6 * n)) (nI i)) ((106 + (6 * n)) + 1) (whM σ i)) 104)) (17 * i + 3)) (As := [.int (nI i), .int (nI 3)]) (rest := [.int ((va_up (va_up (va_up σ (106 + (6 * n)) (nI i)) ((106 + (6 * n)) + 1) (whM σ i)) ((106 + (6 * n)) + 2) ((va_up (va_up σ (106 + (6 * n)) (nI i)) ((106 + (6 * n)) + 1) (whM σ i)) 104)) 104), .int (nI ((106 + (6 * n)) + 3)), .ref (Y + 1)]) ⟨hx, hb, hml, hown, ht⟩ (k_X8_of l g A M Y (va_up (va_up (va_up σ (106 + (6 * n)) (nI i)) ((106 + (6 * n)) + 1) (whM σ i)) ((106 + (6 * n)) + 2) ((va_up (va_up σ (106 + (6 * n)) (nI i)) ((106 + (6 * n)) + 1) (whM σ i)) 104)) ar ns hR i 3 (by omega)) (cwV 2 ht (gU uw_650 uw_652 uw_15 uw_42 uw_653) rfl rfl rfl (by decide +kernel) ⟨by decide, by decide⟩) hK hM hS (m_recv hK hM (hR.1 Y (by omega) (by omega)) hR.2.1 rfl) rfl hl.1 rfl (Nat.le_of_ble_eq_true rfl) dX8_sends_83 ⟨by decide, by decide⟩ (fun H locs hM hS => ?_)
    refine lv_iadd hx hb dX8_sends_86 ?_
    refine rm_sast hx hb hK hM hS hR hF (i := ((106 + (6 * n)) + 3)) (by omega) dX8_sends_87 (fun M H locs hM hR hF hS => ?_)
    refine lv_aload_n hx hb dX8_sends_88 rfl (lv_at hl 2 rfl) ?_
    refine rm_getS hx hb ht ui_X8 hown hK hM hR (ht _ uw_594) dX8_sends_89 ?_
    refine lv_iload_n hx hb dX8_sends_92 rfl (lv_at hl 1 rfl) ?_
    refine lv_iconst (v := nI 4) hx hb dX8_sends_93 (by first | rfl | decide) ?_
    refine lv_iadd hx hb dX8_sends_94 ?_
    rw [nI_add ((106 + (6 * n))) (4)]
    refine lv_aload_n hx hb dX8_sends_95 rfl (lv_at hl 2 rfl) ?_
    refine lv_iload_n hx hb dX8_sends_96 rfl (lv_at hl 3 rfl) ?_
    refine lv_iconst (v := nI 5) hx hb dX8_sends_97 (by first | rfl | decide) ?_
    refine m_callRI (val := (va_up (va_up (va_up (va_up σ (106 + (6 * n)) (nI i)) ((106 + (6 * n)) + 1) (whM σ i)) ((106 + (6 * n)) + 2) ((va_up (va_up σ (106 + (6 * n)) (nI i)) ((106 + (6 * n)) + 1) (whM σ i)) 104)) ((106 + (6 * n)) + 3) (((va_up (va_up (va_up σ (106 + (6 * n)) (nI i)) ((106 + (6 * n)) + 1) (whM σ i)) ((106 + (6 * n)) + 2) ((va_up (va_up σ (106 + (6 * n)) (nI i)) ((106 + (6 * n)) + 1) (whM σ i)) 104)) 104) + ((va_up (va_up (va_up σ (106 + (6 * n)) (nI i)) ((106 + (6 * n)) + 1) (whM σ i)) ((106 + (6 * n)) + 2) ((va_up (va_up σ (106 + (6 * n)) (nI i)) ((106 + (6 * n)) + 1) (whM σ i)) 104)) (17 * i + 3)))) (17 * i + 5)) (As := [.int (nI i), .int (nI 5)]) (rest := [.int (nI ((106 + (6 * n)) + 4)), .ref (Y + 1)]) ⟨hx, hb, hml, hown, ht⟩ (k_X8_of l g A M Y (va_up (va_up (va_up (va_up σ (106 + (6 * n)) (nI i)) ((106 + (6 * n)) + 1) (whM σ i)) ((106 + (6 * n)) + 2) ((va_up (va_up σ (106 + (6 * n)) (nI i)) ((106 + (6 * n)) + 1) (whM σ i)) 104)) ((106 + (6 * n)) + 3) (((va_up (va_up (va_up σ (106 + (6 * n)) (nI i)) ((106 + (6 * n)) + 1) (whM σ i)) ((106 + (6 * n)) + 2) ((va_up (va_up σ (106 + (6 * n)) (nI i)) ((106 + (6 * n)) + 1) (whM σ i)) 104)) 104) + ((va_up (va_up (va_up σ (106 + (6 * n)) (nI i)) ((106 + (6 * n)) + 1) (whM σ i)) ((106 + (6 * n)) + 2) ((va_up (va_up σ (106 + (6 * n)) (nI i)) ((106 + (6 * n)) + 1) (whM σ i)) 104)) (17 * i + 3)))) ar ns hR i 5 (by omega)) (cwV 2 ht (gU uw_650 uw_652 uw_15 uw_42 uw_653) rfl rfl rfl (by decide +kernel) ⟨by decide, by decide⟩) hK hM hS (m_recv hK hM (hR.1 Y (by omega) (by omega)) hR.2.1 rfl) rfl hl.1 rfl (Nat.le_of_ble_eq_true rfl) dX8_sends_98 ⟨by decide, by decide⟩ (fun H locs hM hS => ?_)
    refine rm_sast hx hb hK hM hS hR hF (i := ((106 + (6 * n)) + 4)) (by omega) dX8_sends_101 (fun M H locs hM hR hF hS => ?_)
    refine lv_aload_n hx hb dX8_sends_102 rfl (lv_at hl 2 rfl) ?_
    refine rm_getS hx hb ht ui_X8 hown hK hM hR (ht _ uw_594) dX8_sends_103 ?_
    refine lv_iload_n hx hb dX8_sends_106 rfl (lv_at hl 1 rfl) ?_
    refine lv_iconst (v := nI 5) hx hb dX8_sends_107 (by first | rfl | decide) ?_
    refine lv_iadd hx hb dX8_sends_108 ?_
    rw [nI_add ((106 + (6 * n))) (5)]
    refine lv_aload_n hx hb dX8_sends_109 rfl (lv_at hl 2 rfl) ?_
    refine lv_iconst (v := nI 0) hx hb dX8_sends_110 (by first | rfl | decide) ?_
    refine lv_bipush (v := nI 6) hx hb dX8_sends_111 (by first | rfl | decide) ?_
    refine m_callRI (val := (va_up (va_up (va_up (va_up (va_up σ (106 + (6 * n)) (nI i)) ((106 + (6 * n)) + 1) (whM σ i)) ((106 + (6 * n)) + 2) ((va_up (va_up σ (106 + (6 * n)) (nI i)) ((106 + (6 * n)) + 1) (whM σ i)) 104)) ((106 + (6 * n)) + 3) (((va_up (va_up (va_up σ (106 + (6 * n)) (nI i)) ((106 + (6 * n)) + 1) (whM σ i)) ((106 + (6 * n)) + 2) ((va_up (va_up σ (106 + (6 * n)) (nI i)) ((106 + (6 * n)) + 1) (whM σ i)) 104)) 104) + ((va_up (va_up (va_up σ (106 + (6 * n)) (nI i)) ((106 + (6 * n)) + 1) (whM σ i)) ((106 + (6 * n)) + 2) ((va_up (va_up σ (106 + (6 * n)) (nI i)) ((106 + (6 * n)) + 1) (whM σ i)) 104)) (17 * i + 3)))) ((106 + (6 * n)) + 4) ((va_up (va_up (va_up (va_up σ (106 + (6 * n)) (nI i)) ((106 + (6 * n)) + 1) (whM σ i)) ((106 + (6 * n)) + 2) ((va_up (va_up σ (106 + (6 * n)) (nI i)) ((106 + (6 * n)) + 1) (whM σ i)) 104)) ((106 + (6 * n)) + 3) (((va_up (va_up (va_up σ (106 + (6 * n)) (nI i)) ((106 + (6 * n)) + 1) (whM σ i)) ((106 + (6 * n)) + 2) ((va_up (va_up σ (106 + (6 * n)) (nI i)) ((106 + (6 * n)) + 1) (whM σ i)) 104)) 104) + ((va_up (va_up (va_up σ (106 + (6 * n)) (nI i)) ((106 + (6 * n)) + 1) (whM σ i)) ((106 + (6 * n)) + 2) ((va_up (va_up σ (106 + (6 * n)) (nI i)) ((106 + (6 * n)) + 1) (whM σ i)) 104)) (17 * i + 3)))) (17 * i + 5))) (17 * 0 + 6)) (As := [.int (nI 0), .int (nI 6)]) (rest := [.int (nI ((106 + (6 * n)) + 5)), .ref (Y + 1)]) ⟨hx, hb, hml, hown, ht⟩ (k_X8_of l g A M Y (va_up (va_up (va_up (va_up (va_up σ (106 + (6 * n)) (nI i)) ((106 + (6 * n)) + 1) (whM σ i)) ((106 + (6 * n)) + 2) ((va_up (va_up σ (106 + (6 * n)) (nI i)) ((106 + (6 * n)) + 1) (whM σ i)) 104)) ((106 + (6 * n)) + 3) (((va_up (va_up (va_up σ (106 + (6 * n)) (nI i)) ((106 + (6 * n)) + 1) (whM σ i)) ((106 + (6 * n)) + 2) ((va_up (va_up σ (106 + (6 * n)) (nI i)) ((106 + (6 * n)) + 1) (whM σ i)) 104)) 104) + ((va_up (va_up (va_up σ (106 + (6 * n)) (nI i)) ((106 + (6 * n)) + 1) (whM σ i)) ((106 + (6 * n)) + 2) ((va_up (va_up σ (106 + (6 * n)) (nI i)) ((106 + (6 * n)) + 1) (whM σ i)) 104)) (17 * i + 3)))) ((106 + (6 * n)) + 4) ((va_up (va_up (va_up (va_up σ (106 + (6 * n)) (nI i)) ((106 + (6 * n)) + 1) (whM σ i)) ((106 + (6 * n)) + 2) ((va_up (va_up σ (106 + (6 * n)) (nI i)) ((106 + (6 * n)) + 1) (whM σ i)) 104)) ((106 + (6 * n)) + 3) (((va_up (va_up (va_up σ (106 + (6 * n)) (nI i)) ((106 + (6 * n)) + 1) (whM σ i)) ((106 + (6 * n)) + 2) ((va_up (va_up σ (106 + (6 * n)) (nI i)) ((106 + (6 * n)) + 1) (whM σ i)) 104)) 104) + ((va_up (va_up (va_up σ (106 + (6 * n)) (nI i)) ((106 + (6 * n)) + 1) (whM σ i)) ((106 + (6 * n)) + 2) ((va_up (va_up σ (106 + (6 * n)) (nI i)) ((106 + (6 * n)) + 1) (whM σ i)) 104)) (17 * i + 3)))) (17 * i + 5))) ar ns hR 0 6 (by omega)) (cwV 2 ht (gU uw_650 uw_652 uw_15 uw_42 uw_653) rfl rfl rfl (by decide +kernel) ⟨by decide, by decide⟩) hK hM hS (m_recv hK hM (hR.1 Y (by omega) (by omega)) hR.2.1 rfl) rfl hl.1 rfl (Nat.le_of_ble_eq_true rfl) dX8_sends_113 ⟨by decide, by decide⟩ (fun H locs hM hS => ?_)
    refine rm_sast hx hb hK hM hS hR hF (i := ((106 + (6 * n)) + 5)) (by omega) dX8_sends_116 (fun M H locs hM hR hF hS => ?_)
    refine lv_aload_n hx hb dX8_sends_117 rfl (lv_at hl 2 rfl) ?_
    refine rm_getS hx hb ht ui_X8 hown hK hM hR (ht _ uw_594) dX8_sends_118 ?_
    refine lv_bipush (v := nI 105) hx hb dX8_sends_121 (by first | rfl | decide) ?_
    refine lv_dup2_11 hx hb dX8_sends_123 rfl rfl ?_
    refine rm_sald hx hb hK hM hR (i := 105) (by omega) dX8_sends_124 ?_
    rw [show (va_up (va_up (va_up (va_up (va_up (va_up σ (106 + (6 * n)) (nI i)) ((106 + (6 * n)) + 1) (whM σ i)) ((106 + (6 * n)) + 2) ((va_up (va_up σ (106 + (6 * n)) (nI i)) ((106 + (6 * n)) + 1) (whM σ i)) 104)) ((106 + (6 * n)) + 3) (((va_up (va_up (va_up σ (106 + (6 * n)) (nI i)) ((106 + (6 * n)) + 1) (whM σ i)) ((106 + (6 * n)) + 2) ((va_up (va_up σ (106 + (6 * n)) (nI i)) ((106 + (6 * n)) + 1) (whM σ i)) 104)) 104) + ((va_up (va_up (va_up σ (106 + (6 * n)) (nI i)) ((106 + (6 * n)) + 1) (whM σ i)) ((106 + (6 * n)) + 2) ((va_up (va_up σ (106 + (6 * n)) (nI i)) ((106 + (6 * n)) + 1) (whM σ i)) 104)) (17 * i + 3)))) ((106 + (6 * n)) + 4) ((va_up (va_up (va_up (va_up σ (106 + (6 * n)) (nI i)) ((106 + (6 * n)) + 1) (whM σ i)) ((106 + (6 * n)) + 2) ((va_up (va_up σ (106 + (6 * n)) (nI i)) ((106 + (6 * n)) + 1) (whM σ i)) 104)) ((106 + (6 * n)) + 3) (((va_up (va_up (va_up σ (106 + (6 * n)) (nI i)) ((106 + (6 * n)) + 1) (whM σ i)) ((106 + (6 * n)) + 2) ((va_up (va_up σ (106 + (6 * n)) (nI i)) ((106 + (6 * n)) + 1) (whM σ i)) 104)) 104) + ((va_up (va_up (va_up σ (106 + (6 * n)) (nI i)) ((106 + (6 * n)) + 1) (whM σ i)) ((106 + (6 * n)) + 2) ((va_up (va_up σ (106 + (6 * n)) (nI i)) ((106 + (6 * n)) + 1) (whM σ i)) 104)) (17 * i + 3)))) (17 * i + 5))) ((106 + (6 * n)) + 5) ((va_up (va_up (va_up (va_up (va_up σ (106 + (6 * n)) (nI i)) ((106 + (6 * n)) + 1) (whM σ i)) ((106 + (6 * n)) + 2) ((va_up (va_up σ (106 + (6 * n)) (nI i)) ((106 + (6 * n)) + 1) (whM σ i)) 104)) ((106 + (6 * n)) + 3) (((va_up (va_up (va_up σ (106 + (6 * n)) (nI i)) ((106 + (6 * n)) + 1) (whM σ i)) ((106 + (6 * n)) + 2) ((va_up (va_up σ (106 + (6 * n)) (nI i)) ((106 + (6 * n)) + 1) (whM σ i)) 104)) 104) + ((va_up (va_up (va_up σ (106 + (6 * n)) (nI i)) ((106 + (6 * n)) + 1) (whM σ i)) ((106 + (6 * n)) + 2) ((va_up (va_up σ (106 + (6 * n)) (nI i)) ((106 + (6 * n)) + 1) (whM σ i)) 104)) (17 * i + 3)))) ((106 + (6 * n)) + 4) ((va_up (va_up (va_up (va_up σ (106 + (6 * n)) (nI i)) ((106 + (6 * n)) + 1) (whM σ i)) ((106 + (6 * n)) + 2) ((va_up (va_up σ (106 + (6 * n)) (nI i)) ((106 + (6 * n)) + 1) (whM σ i)) 104)) ((106 + (6 * n)) + 3) (((va_up (va_up (va_up σ (106 + (6 * n)) (nI i)) ((106 + (6 * n)) + 1) (whM σ i)) ((106 + (6 * n)) + 2) ((va_up (va_up σ (106 + (6 * n)) (nI i)) ((106 + (6 * n)) + 1) (whM σ i)) 104)) 104) + ((va_up (va_up (va_up σ (106 + (6 * n)) (nI i)) ((106 + (6 * n)) + 1) (whM σ i)) ((106 + (6 * n)) + 2) ((va_up (va_up σ (106 + (6 * n)) (nI i)) ((106 + (6 * n)) + 1) (whM σ i)) 104)) (17 * i + 3)))) (17 * i + 5))) (17 * 0 + 6))) 105 = nI n from (snd_105 hn hlt)]
    refine lv_iconst (v := 1) hx hb dX8_sends_125 (by first | rfl | decide) ?_
    refine lv_iadd hx hb dX8_sends_126 ?_
    refine rm_sast hx hb hK hM hS hR hF (i := 105) (by omega) dX8_sends_127 (fun M H locs hM hR hF hS => ?_)
    have hR : RepM g A M Y (sndC σ i n) ar ns := hR
    refine lv_aload_n hx hb dX8_sends_128 rfl (lv_at hl 2 rfl) ?_
    refine m_callV (As := []) (rest := []) ⟨hx, hb, hml, hown, ht⟩ (k_X8_come l g A M Y (sndC σ i n) ar ns hR (n + 1) (sndC_TI hT hi hlt c1 c2).2 (by omega) (sndC_TI hT hi hlt c1 c2).1) (cwV 0 ht (gU uw_679 uw_681 uw_19 uw_42 uw_682) rfl rfl rfl (by decide +kernel) ⟨by decide, by decide⟩) hK hM hS (m_recv hK hM (hR.1 Y (by omega) (by omega)) hR.2.1 rfl) rfl hl.1 rfl (Nat.le_of_ble_eq_true rfl) dX8_sends_129 ⟨by decide, by decide⟩ (fun M H locs hp hM hS => ?_)
    obtain ⟨hR, hF1⟩ := hp
    have hF := hF.tr hF1
    refine lv_iload_n hx hb dX8_sends_132 rfl (lv_at hl 0 rfl) ?_
    subst hQ
    exact m_zret hx hb hr (rfl) hlk hK hM hS dX8_sends_133 (⟨fun _ => ⟨rfl, hR, hF⟩, fun z => absurd hlt z⟩)
  · have hn2 : n = 20 := by omega
    refine lv_aload_n hx hb dX8_sends_0 rfl (lv_at hl 0 rfl) ?_
    refine rm_getS hx hb ht ui_X8 hown hK hM hR (ht _ uw_594) dX8_sends_1 ?_
    refine lv_bipush (v := nI 105) hx hb dX8_sends_4 (by first | rfl | decide) ?_
    refine rm_sald hx hb hK hM hR (i := 105) (by omega) dX8_sends_6 ?_
    rw [hn]
    refine lv_bipush (v := nI 20) hx hb dX8_sends_7 (by first | rfl | decide) ?_
    refine lv_icmp_ne (tgt := 15) hx hb dX8_sends_9 (by decide) (fun c_9 => absurd (by rw [hn2]) c_9) (fun c_9 => ?_)
    refine lv_ldc (v := (-1000004)) hx hb hown (ht _ uw_670) dX8_sends_12 ?_
    subst hQ
    exact m_zret hx hb hr (rfl) hlk hK hM hS dX8_sends_14 (⟨fun z => absurd z hlt, fun _ => ⟨rfl, hMM⟩⟩)

set_option maxHeartbeats 4000000 in
set_option maxRecDepth 100000 in
/-- hour -/
theorem k_X8_hour (l : Launch) (g : GG) (A : Nat → Prop) (M0 : MM) (Y : Nat) (σ : Nat → Int32) (ar : Nat → Nat → Int32) (ns : Nat → Int32) (hR : RepM g A M0 Y σ ar ns) (am : Int32) (n : Nat) (hn : σ 105 = nI n) (hn20 : n ≤ 20) (hT : TI σ n)  : Met l yX8_hour (Uw yX8_hour cX8_hour 6 (Option.some ClassFile.FieldType.int)) (rmD 4) (PreM [.ref (Y), .int (am)] g A M0) (PosI (fun r M1 => r = (tisM am σ 0 6) ∧ RepM g A M1 Y (comC n 0 (ho1M am σ)) (ar) (ns) ∧ FrM Y M0 M1) g A) 0 0 A := by
  refine mk_Met (own := RX8) rfl rfl (by decide) (Nat.le_of_ble_eq_true rfl) ?_
  intro p e s m below meth c ls aa Q haa hQ hx hb hr hlk hml hown hts hK hM hS hl hnm
  obtain ⟨M, hMM⟩ : ∃ M, M = M0 := ⟨_, rfl⟩
  rw [← hMM] at hM hR
  have ht : ∀ w ∈ lw_good, w.before _ s = true := fun w h => hts w (List.mem_cons_of_mem _ h)
  have hF : FrM Y M0 M := by rw [hMM]; exact FrM.rf
  have hl : lv_has ls 6 [(0, .ref (Y)), (1, .int (am))] := hl
  refine lv_iconst (v := nI 0) hx hb dX8_hour_0 (by first | rfl | decide) ?_
  refine lv_istore_n (lv' := [(2, .int (nI 0)), (0, .ref (Y)), (1, .int (am))]) hx hb dX8_hour_1 rfl hl (by decide) rfl (fun ls hl => ?_)
  refine lv_iconst (v := nI 0) hx hb dX8_hour_2 (by first | rfl | decide) ?_
  refine lv_istore_n (lv' := [(3, .int (nI 0)), (2, .int (nI 0)), (0, .ref (Y)), (1, .int (am))]) hx hb dX8_hour_3 rfl hl (by decide) rfl (fun ls hl => ?_)
  have loop_4 : ∀ (z_4 : Nat) (i : Nat) (t : Int32) (M : MM) (H : Heap) (locs : List Loc) (ls : Array Slot), 6 - i < z_4 → i ≤ 6 → t = tisM am σ 0 i → HD g A M H → RepM g A M Y (catML am σ i) ar ns → FrM Y M0 M → va_S A s.heap H locs → lv_has ls 6 [(3, .int (nI i)), (2, .int (t)), (0, .ref (Y)), (1, .int (am))] → W p l e (rmD 4) s m aa below meth c H locs 0 0 Q (F0 m 4 ls []) := by
    intro z_4
    induction z_4 with
    | zero => intro i t M H locs ls hz hi ht1; exact absurd hz (Nat.not_lt_zero _)
    | succ z_4 ih_4 =>
    intro i t M H locs ls hz hi ht1 hM hR hF hS hl
    refine lv_iload_n hx hb dX8_hour_4 rfl (lv_at hl 0 rfl) ?_
    refine lv_bipush (v := nI 6) hx hb dX8_hour_5 (by first | rfl | decide) ?_
    refine lv_icmp_ge (tgt := 113) hx hb dX8_hour_7 (by decide) (fun c_7 => ?_) (fun c_7 => ?_)
    · have hi6 : i = 6 := Nat.le_antisymm hi (nI_le_of (by omega) (by decide) c_7)
      subst hi6
      refine lv_aload_n hx hb dX8_hour_113 rfl (lv_at hl 2 rfl) ?_
      refine rm_getS hx hb ht ui_X8 hown hK hM hR (ht _ uw_594) dX8_hour_114 ?_
      refine lv_bipush (v := nI 104) hx hb dX8_hour_117 (by first | rfl | decide) ?_
      refine lv_dup2_11 hx hb dX8_hour_119 rfl rfl ?_
      refine rm_sald hx hb hK hM hR (i := 104) (by omega) dX8_hour_120 ?_
      refine lv_iconst (v := 1) hx hb dX8_hour_121 (by first | rfl | decide) ?_
      refine lv_iadd hx hb dX8_hour_122 ?_
      refine rm_sast hx hb hK hM hS hR hF (i := 104) (by omega) dX8_hour_123 (fun M H locs hM hR hF hS => ?_)
      have hR : RepM g A M Y (ho1M am σ) ar ns := hR
      refine lv_aload_n hx hb dX8_hour_124 rfl (lv_at hl 2 rfl) ?_
      refine m_callV (As := []) (rest := []) ⟨hx, hb, hml, hown, ht⟩ (k_X8_come l g A M Y (ho1M am σ) ar ns hR n (ho1M_105.trans hn) hn20 (hT.ho1M am)) (cwV 0 ht (gU uw_679 uw_681 uw_19 uw_42 uw_682) rfl rfl rfl (by decide +kernel) ⟨by decide, by decide⟩) hK hM hS (m_recv hK hM (hR.1 Y (by omega) (by omega)) hR.2.1 rfl) rfl hl.1 rfl (Nat.le_of_ble_eq_true rfl) dX8_hour_125 ⟨by decide, by decide⟩ (fun M H locs hp hM hS => ?_)
      obtain ⟨hR, hF1⟩ := hp
      have hF := hF.tr hF1
      refine lv_iload_n hx hb dX8_hour_128 rfl (lv_at hl 1 rfl) ?_
      subst hQ
      exact m_zret hx hb hr (rfl) hlk hK hM hS dX8_hour_129 (⟨ht1, hR, hF⟩)
    · have hi6 : i < 6 := nI_lt_of (by omega) (by decide) c_7
      refine lv_iload_n hx hb dX8_hour_10 rfl (lv_at hl 3 rfl) ?_
      refine lv_aload_n hx hb dX8_hour_11 rfl (lv_at hl 2 rfl) ?_
      refine lv_iload_n hx hb dX8_hour_12 rfl (lv_at hl 0 rfl) ?_
      refine lv_iconst (v := nI 0) hx hb dX8_hour_13 (by first | rfl | decide) ?_
      refine m_callRI (val := (catML am σ i) (17 * i + 0)) (As := [.int (nI i), .int (nI 0)]) (rest := [.int (am)]) ⟨hx, hb, hml, hown, ht⟩ (k_X8_of l g A M Y (catML am σ i) ar ns hR i 0 (by omega)) (cwV 2 ht (gU uw_650 uw_652 uw_15 uw_42 uw_653) rfl rfl rfl (by decide +kernel) ⟨by decide, by decide⟩) hK hM hS (m_recv hK hM (hR.1 Y (by omega) (by omega)) hR.2.1 rfl) rfl hl.1 rfl (Nat.le_of_ble_eq_true rfl) dX8_hour_14 ⟨by decide, by decide⟩ (fun H locs hM hS => ?_)
      refine lv_imul hx hb dX8_hour_17 ?_
      refine lv_aload_n hx hb dX8_hour_18 rfl (lv_at hl 2 rfl) ?_
      refine lv_iload_n hx hb dX8_hour_19 rfl (lv_at hl 0 rfl) ?_
      refine lv_iconst (v := nI 2) hx hb dX8_hour_20 (by first | rfl | decide) ?_
      refine m_callRI (val := (catML am σ i) (17 * i + 2)) (As := [.int (nI i), .int (nI 2)]) (rest := [.int ((am) * ((catML am σ i) (17 * i + 0)))]) ⟨hx, hb, hml, hown, ht⟩ (k_X8_of l g A M Y (catML am σ i) ar ns hR i 2 (by omega)) (cwV 2 ht (gU uw_650 uw_652 uw_15 uw_42 uw_653) rfl rfl rfl (by decide +kernel) ⟨by decide, by decide⟩) hK hM hS (m_recv hK hM (hR.1 Y (by omega) (by omega)) hR.2.1 rfl) rfl hl.1 rfl (Nat.le_of_ble_eq_true rfl) dX8_hour_21 ⟨by decide, by decide⟩ (fun H locs hM hS => ?_)
      refine lv_imul hx hb dX8_hour_24 ?_
      refine lv_bipush (v := nI 100) hx hb dX8_hour_25 (by first | rfl | decide) ?_
      refine lv_idiv hx hb dX8_hour_27 (by decide) ?_
      refine lv_topi (fun cc9 e_cc9 => ?_)
      refine lv_istore (lv' := [(4, .int (cc9)), (3, .int (nI i)), (2, .int (t)), (0, .ref (Y)), (1, .int (am))]) hx hb dX8_hour_28 hl (by decide) rfl (fun ls hl => ?_)
      refine lv_aload_n hx hb dX8_hour_30 rfl (lv_at hl 3 rfl) ?_
      refine lv_iload_n hx hb dX8_hour_31 rfl (lv_at hl 1 rfl) ?_
      refine lv_bipush (v := nI 6) hx hb dX8_hour_32 (by first | rfl | decide) ?_
      refine lv_iload hx hb dX8_hour_34 (lv_at hl 0 rfl) ?_
      refine m_callV (As := [.int (nI i), .int (nI 6), .int (cc9)]) (rest := []) ⟨hx, hb, hml, hown, ht⟩ (k_X8_add l g A M Y (catML am σ i) ar ns hR i 6 (cc9) (by omega)) (cwV 3 ht (gU uw_642 uw_644 uw_13 uw_42 uw_645) rfl rfl rfl (by decide +kernel) ⟨by decide, by decide⟩) hK hM hS (m_recv hK hM (hR.1 Y (by omega) (by omega)) hR.2.1 rfl) rfl hl.1 rfl (Nat.le_of_ble_eq_true rfl) dX8_hour_36 ⟨by decide, by decide⟩ (fun M H locs hp hM hS => ?_)
      obtain ⟨hR, hF1⟩ := hp
      have hF := hF.tr hF1
      refine lv_aload_n hx hb dX8_hour_39 rfl (lv_at hl 3 rfl) ?_
      refine lv_iload_n hx hb dX8_hour_40 rfl (lv_at hl 1 rfl) ?_
      refine lv_iconst (v := nI 4) hx hb dX8_hour_41 (by first | rfl | decide) ?_
      refine lv_iload hx hb dX8_hour_42 (lv_at hl 0 rfl) ?_
      refine m_callV (As := [.int (nI i), .int (nI 4), .int (cc9)]) (rest := []) ⟨hx, hb, hml, hown, ht⟩ (k_X8_add l g A M Y (va_up (catML am σ i) (17 * i + 6) ((catML am σ i) (17 * i + 6) + (cc9))) ar ns hR i 4 (cc9) (by omega)) (cwV 3 ht (gU uw_642 uw_644 uw_13 uw_42 uw_645) rfl rfl rfl (by decide +kernel) ⟨by decide, by decide⟩) hK hM hS (m_recv hK hM (hR.1 Y (by omega) (by omega)) hR.2.1 rfl) rfl hl.1 rfl (Nat.le_of_ble_eq_true rfl) dX8_hour_44 ⟨by decide, by decide⟩ (fun M H locs hp hM hS => ?_)
      obtain ⟨hR, hF1⟩ := hp
      have hF := hF.tr hF1
      refine lv_aload_n hx hb dX8_hour_47 rfl (lv_at hl 3 rfl) ?_
      refine lv_iload_n hx hb dX8_hour_48 rfl (lv_at hl 1 rfl) ?_
      refine lv_iconst (v := nI 4) hx hb dX8_hour_49 (by first | rfl | decide) ?_
      refine m_callRI (val := (va_up (va_up (catML am σ i) (17 * i + 6) ((catML am σ i) (17 * i + 6) + (cc9))) (17 * i + 4) ((va_up (catML am σ i) (17 * i + 6) ((catML am σ i) (17 * i + 6) + (cc9))) (17 * i + 4) + (cc9))) (17 * i + 4)) (As := [.int (nI i), .int (nI 4)]) (rest := []) ⟨hx, hb, hml, hown, ht⟩ (k_X8_of l g A M Y (va_up (va_up (catML am σ i) (17 * i + 6) ((catML am σ i) (17 * i + 6) + (cc9))) (17 * i + 4) ((va_up (catML am σ i) (17 * i + 6) ((catML am σ i) (17 * i + 6) + (cc9))) (17 * i + 4) + (cc9))) ar ns hR i 4 (by omega)) (cwV 2 ht (gU uw_650 uw_652 uw_15 uw_42 uw_653) rfl rfl rfl (by decide +kernel) ⟨by decide, by decide⟩) hK hM hS (m_recv hK hM (hR.1 Y (by omega) (by omega)) hR.2.1 rfl) rfl hl.1 rfl (Nat.le_of_ble_eq_true rfl) dX8_hour_50 ⟨by decide, by decide⟩ (fun H locs hM hS => ?_)
      refine lv_aload_n hx hb dX8_hour_53 rfl (lv_at hl 3 rfl) ?_
      refine lv_iload_n hx hb dX8_hour_54 rfl (lv_at hl 1 rfl) ?_
      refine lv_iconst (v := nI 1) hx hb dX8_hour_55 (by first | rfl | decide) ?_
      refine m_callRI (val := (va_up (va_up (catML am σ i) (17 * i + 6) ((catML am σ i) (17 * i + 6) + (cc9))) (17 * i + 4) ((va_up (catML am σ i) (17 * i + 6) ((catML am σ i) (17 * i + 6) + (cc9))) (17 * i + 4) + (cc9))) (17 * i + 1)) (As := [.int (nI i), .int (nI 1)]) (rest := [.int ((va_up (va_up (catML am σ i) (17 * i + 6) ((catML am σ i) (17 * i + 6) + (cc9))) (17 * i + 4) ((va_up (catML am σ i) (17 * i + 6) ((catML am σ i) (17 * i + 6) + (cc9))) (17 * i + 4) + (cc9))) (17 * i + 4))]) ⟨hx, hb, hml, hown, ht⟩ (k_X8_of l g A M Y (va_up (va_up (catML am σ i) (17 * i + 6) ((catML am σ i) (17 * i + 6) + (cc9))) (17 * i + 4) ((va_up (catML am σ i) (17 * i + 6) ((catML am σ i) (17 * i + 6) + (cc9))) (17 * i + 4) + (cc9))) ar ns hR i 1 (by omega)) (cwV 2 ht (gU uw_650 uw_652 uw_15 uw_42 uw_653) rfl rfl rfl (by decide +kernel) ⟨by decide, by decide⟩) hK hM hS (m_recv hK hM (hR.1 Y (by omega) (by omega)) hR.2.1 rfl) rfl hl.1 rfl (Nat.le_of_ble_eq_true rfl) dX8_hour_56 ⟨by decide, by decide⟩ (fun H locs hM hS => ?_)
      refine lv_idiv hx hb dX8_hour_59 ((cat_nz hT hi6 (am := am) (c := cc9))) ?_
      refine lv_topi (fun nn9 e_nn9 => ?_)
      refine lv_istore (lv' := [(5, .int (nn9)), (4, .int (cc9)), (3, .int (nI i)), (2, .int (t)), (0, .ref (Y)), (1, .int (am))]) hx hb dX8_hour_60 hl (by decide) rfl (fun ls hl => ?_)
      refine lv_aload_n hx hb dX8_hour_62 rfl (lv_at hl 4 rfl) ?_
      refine lv_iload_n hx hb dX8_hour_63 rfl (lv_at hl 2 rfl) ?_
      refine lv_iconst (v := nI 4) hx hb dX8_hour_64 (by first | rfl | decide) ?_
      refine lv_iload hx hb dX8_hour_65 (lv_at hl 0 rfl) ?_
      refine lv_ineg hx hb dX8_hour_67 ?_
      refine lv_aload_n hx hb dX8_hour_68 rfl (lv_at hl 4 rfl) ?_
      refine lv_iload_n hx hb dX8_hour_69 rfl (lv_at hl 2 rfl) ?_
      refine lv_iconst (v := nI 1) hx hb dX8_hour_70 (by first | rfl | decide) ?_
      refine m_callRI (val := (va_up (va_up (catML am σ i) (17 * i + 6) ((catML am σ i) (17 * i + 6) + (cc9))) (17 * i + 4) ((va_up (catML am σ i) (17 * i + 6) ((catML am σ i) (17 * i + 6) + (cc9))) (17 * i + 4) + (cc9))) (17 * i + 1)) (As := [.int (nI i), .int (nI 1)]) (rest := [.int (-(nn9)), .int (nI 4), .int (nI i), .ref (Y)]) ⟨hx, hb, hml, hown, ht⟩ (k_X8_of l g A M Y (va_up (va_up (catML am σ i) (17 * i + 6) ((catML am σ i) (17 * i + 6) + (cc9))) (17 * i + 4) ((va_up (catML am σ i) (17 * i + 6) ((catML am σ i) (17 * i + 6) + (cc9))) (17 * i + 4) + (cc9))) ar ns hR i 1 (by omega)) (cwV 2 ht (gU uw_650 uw_652 uw_15 uw_42 uw_653) rfl rfl rfl (by decide +kernel) ⟨by decide, by decide⟩) hK hM hS (m_recv hK hM (hR.1 Y (by omega) (by omega)) hR.2.1 rfl) rfl hl.1 rfl (Nat.le_of_ble_eq_true rfl) dX8_hour_71 ⟨by decide, by decide⟩ (fun H locs hM hS => ?_)
      refine lv_imul hx hb dX8_hour_74 ?_
      refine m_callV (As := [.int (nI i), .int (nI 4), .int ((-(nn9)) * ((va_up (va_up (catML am σ i) (17 * i + 6) ((catML am σ i) (17 * i + 6) + (cc9))) (17 * i + 4) ((va_up (catML am σ i) (17 * i + 6) ((catML am σ i) (17 * i + 6) + (cc9))) (17 * i + 4) + (cc9))) (17 * i + 1)))]) (rest := []) ⟨hx, hb, hml, hown, ht⟩ (k_X8_add l g A M Y (va_up (va_up (catML am σ i) (17 * i + 6) ((catML am σ i) (17 * i + 6) + (cc9))) (17 * i + 4) ((va_up (catML am σ i) (17 * i + 6) ((catML am σ i) (17 * i + 6) + (cc9))) (17 * i + 4) + (cc9))) ar ns hR i 4 ((-(nn9)) * ((va_up (va_up (catML am σ i) (17 * i + 6) ((catML am σ i) (17 * i + 6) + (cc9))) (17 * i + 4) ((va_up (catML am σ i) (17 * i + 6) ((catML am σ i) (17 * i + 6) + (cc9))) (17 * i + 4) + (cc9))) (17 * i + 1))) (by omega)) (cwV 3 ht (gU uw_642 uw_644 uw_13 uw_42 uw_645) rfl rfl rfl (by decide +kernel) ⟨by decide, by decide⟩) hK hM hS (m_recv hK hM (hR.1 Y (by omega) (by omega)) hR.2.1 rfl) rfl hl.1 rfl (Nat.le_of_ble_eq_true rfl) dX8_hour_75 ⟨by decide, by decide⟩ (fun M H locs hp hM hS => ?_)
      obtain ⟨hR, hF1⟩ := hp
      have hF := hF.tr hF1
      refine lv_aload_n hx hb dX8_hour_78 rfl (lv_at hl 4 rfl) ?_
      refine lv_iload_n hx hb dX8_hour_79 rfl (lv_at hl 2 rfl) ?_
      refine lv_bipush (v := nI 7) hx hb dX8_hour_80 (by first | rfl | decide) ?_
      refine lv_iload hx hb dX8_hour_82 (lv_at hl 0 rfl) ?_
      refine lv_aload_n hx hb dX8_hour_84 rfl (lv_at hl 4 rfl) ?_
      refine lv_iload_n hx hb dX8_hour_85 rfl (lv_at hl 2 rfl) ?_
      refine lv_iconst (v := nI 1) hx hb dX8_hour_86 (by first | rfl | decide) ?_
      refine m_callRI (val := (va_up (va_up (va_up (catML am σ i) (17 * i + 6) ((catML am σ i) (17 * i + 6) + (cc9))) (17 * i + 4) ((va_up (catML am σ i) (17 * i + 6) ((catML am σ i) (17 * i + 6) + (cc9))) (17 * i + 4) + (cc9))) (17 * i + 4) ((va_up (va_up (catML am σ i) (17 * i + 6) ((catML am σ i) (17 * i + 6) + (cc9))) (17 * i + 4) ((va_up (catML am σ i) (17 * i + 6) ((catML am σ i) (17 * i + 6) + (cc9))) (17 * i + 4) + (cc9))) (17 * i + 4) + ((-(nn9)) * ((va_up (va_up (catML am σ i) (17 * i + 6) ((catML am σ i) (17 * i + 6) + (cc9))) (17 * i + 4) ((va_up (catML am σ i) (17 * i + 6) ((catML am σ i) (17 * i + 6) + (cc9))) (17 * i + 4) + (cc9))) (17 * i + 1))))) (17 * i + 1)) (As := [.int (nI i), .int (nI 1)]) (rest := [.int (nn9), .int (nI 7), .int (nI i), .ref (Y)]) ⟨hx, hb, hml, hown, ht⟩ (k_X8_of l g A M Y (va_up (va_up (va_up (catML am σ i) (17 * i + 6) ((catML am σ i) (17 * i + 6) + (cc9))) (17 * i + 4) ((va_up (catML am σ i) (17 * i + 6) ((catML am σ i) (17 * i + 6) + (cc9))) (17 * i + 4) + (cc9))) (17 * i + 4) ((va_up (va_up (catML am σ i) (17 * i + 6) ((catML am σ i) (17 * i + 6) + (cc9))) (17 * i + 4) ((va_up (catML am σ i) (17 * i + 6) ((catML am σ i) (17 * i + 6) + (cc9))) (17 * i + 4) + (cc9))) (17 * i + 4) + ((-(nn9)) * ((va_up (va_up (catML am σ i) (17 * i + 6) ((catML am σ i) (17 * i + 6) + (cc9))) (17 * i + 4) ((va_up (catML am σ i) (17 * i + 6) ((catML am σ i) (17 * i + 6) + (cc9))) (17 * i + 4) + (cc9))) (17 * i + 1))))) ar ns hR i 1 (by omega)) (cwV 2 ht (gU uw_650 uw_652 uw_15 uw_42 uw_653) rfl rfl rfl (by decide +kernel) ⟨by decide, by decide⟩) hK hM hS (m_recv hK hM (hR.1 Y (by omega) (by omega)) hR.2.1 rfl) rfl hl.1 rfl (Nat.le_of_ble_eq_true rfl) dX8_hour_87 ⟨by decide, by decide⟩ (fun H locs hM hS => ?_)
      refine lv_imul hx hb dX8_hour_90 ?_
      refine m_callV (As := [.int (nI i), .int (nI 7), .int ((nn9) * ((va_up (va_up (va_up (catML am σ i) (17 * i + 6) ((catML am σ i) (17 * i + 6) + (cc9))) (17 * i + 4) ((va_up (catML am σ i) (17 * i + 6) ((catML am σ i) (17 * i + 6) + (cc9))) (17 * i + 4) + (cc9))) (17 * i + 4) ((va_up (va_up (catML am σ i) (17 * i + 6) ((catML am σ i) (17 * i + 6) + (cc9))) (17 * i + 4) ((va_up (catML am σ i) (17 * i + 6) ((catML am σ i) (17 * i + 6) + (cc9))) (17 * i + 4) + (cc9))) (17 * i + 4) + ((-(nn9)) * ((va_up (va_up (catML am σ i) (17 * i + 6) ((catML am σ i) (17 * i + 6) + (cc9))) (17 * i + 4) ((va_up (catML am σ i) (17 * i + 6) ((catML am σ i) (17 * i + 6) + (cc9))) (17 * i + 4) + (cc9))) (17 * i + 1))))) (17 * i + 1)))]) (rest := []) ⟨hx, hb, hml, hown, ht⟩ (k_X8_add l g A M Y (va_up (va_up (va_up (catML am σ i) (17 * i + 6) ((catML am σ i) (17 * i + 6) + (cc9))) (17 * i + 4) ((va_up (catML am σ i) (17 * i + 6) ((catML am σ i) (17 * i + 6) + (cc9))) (17 * i + 4) + (cc9))) (17 * i + 4) ((va_up (va_up (catML am σ i) (17 * i + 6) ((catML am σ i) (17 * i + 6) + (cc9))) (17 * i + 4) ((va_up (catML am σ i) (17 * i + 6) ((catML am σ i) (17 * i + 6) + (cc9))) (17 * i + 4) + (cc9))) (17 * i + 4) + ((-(nn9)) * ((va_up (va_up (catML am σ i) (17 * i + 6) ((catML am σ i) (17 * i + 6) + (cc9))) (17 * i + 4) ((va_up (catML am σ i) (17 * i + 6) ((catML am σ i) (17 * i + 6) + (cc9))) (17 * i + 4) + (cc9))) (17 * i + 1))))) ar ns hR i 7 ((nn9) * ((va_up (va_up (va_up (catML am σ i) (17 * i + 6) ((catML am σ i) (17 * i + 6) + (cc9))) (17 * i + 4) ((va_up (catML am σ i) (17 * i + 6) ((catML am σ i) (17 * i + 6) + (cc9))) (17 * i + 4) + (cc9))) (17 * i + 4) ((va_up (va_up (catML am σ i) (17 * i + 6) ((catML am σ i) (17 * i + 6) + (cc9))) (17 * i + 4) ((va_up (catML am σ i) (17 * i + 6) ((catML am σ i) (17 * i + 6) + (cc9))) (17 * i + 4) + (cc9))) (17 * i + 4) + ((-(nn9)) * ((va_up (va_up (catML am σ i) (17 * i + 6) ((catML am σ i) (17 * i + 6) + (cc9))) (17 * i + 4) ((va_up (catML am σ i) (17 * i + 6) ((catML am σ i) (17 * i + 6) + (cc9))) (17 * i + 4) + (cc9))) (17 * i + 1))))) (17 * i + 1))) (by omega)) (cwV 3 ht (gU uw_642 uw_644 uw_13 uw_42 uw_645) rfl rfl rfl (by decide +kernel) ⟨by decide, by decide⟩) hK hM hS (m_recv hK hM (hR.1 Y (by omega) (by omega)) hR.2.1 rfl) rfl hl.1 rfl (Nat.le_of_ble_eq_true rfl) dX8_hour_91 ⟨by decide, by decide⟩ (fun M H locs hp hM hS => ?_)
      obtain ⟨hR, hF1⟩ := hp
      have hF := hF.tr hF1
      refine lv_aload_n hx hb dX8_hour_94 rfl (lv_at hl 4 rfl) ?_
      refine lv_iload_n hx hb dX8_hour_95 rfl (lv_at hl 2 rfl) ?_
      refine lv_iconst (v := nI 5) hx hb dX8_hour_96 (by first | rfl | decide) ?_
      refine lv_iload hx hb dX8_hour_97 (lv_at hl 0 rfl) ?_
      refine m_callV (As := [.int (nI i), .int (nI 5), .int (nn9)]) (rest := []) ⟨hx, hb, hml, hown, ht⟩ (k_X8_add l g A M Y (va_up (va_up (va_up (va_up (catML am σ i) (17 * i + 6) ((catML am σ i) (17 * i + 6) + (cc9))) (17 * i + 4) ((va_up (catML am σ i) (17 * i + 6) ((catML am σ i) (17 * i + 6) + (cc9))) (17 * i + 4) + (cc9))) (17 * i + 4) ((va_up (va_up (catML am σ i) (17 * i + 6) ((catML am σ i) (17 * i + 6) + (cc9))) (17 * i + 4) ((va_up (catML am σ i) (17 * i + 6) ((catML am σ i) (17 * i + 6) + (cc9))) (17 * i + 4) + (cc9))) (17 * i + 4) + ((-(nn9)) * ((va_up (va_up (catML am σ i) (17 * i + 6) ((catML am σ i) (17 * i + 6) + (cc9))) (17 * i + 4) ((va_up (catML am σ i) (17 * i + 6) ((catML am σ i) (17 * i + 6) + (cc9))) (17 * i + 4) + (cc9))) (17 * i + 1))))) (17 * i + 7) ((va_up (va_up (va_up (catML am σ i) (17 * i + 6) ((catML am σ i) (17 * i + 6) + (cc9))) (17 * i + 4) ((va_up (catML am σ i) (17 * i + 6) ((catML am σ i) (17 * i + 6) + (cc9))) (17 * i + 4) + (cc9))) (17 * i + 4) ((va_up (va_up (catML am σ i) (17 * i + 6) ((catML am σ i) (17 * i + 6) + (cc9))) (17 * i + 4) ((va_up (catML am σ i) (17 * i + 6) ((catML am σ i) (17 * i + 6) + (cc9))) (17 * i + 4) + (cc9))) (17 * i + 4) + ((-(nn9)) * ((va_up (va_up (catML am σ i) (17 * i + 6) ((catML am σ i) (17 * i + 6) + (cc9))) (17 * i + 4) ((va_up (catML am σ i) (17 * i + 6) ((catML am σ i) (17 * i + 6) + (cc9))) (17 * i + 4) + (cc9))) (17 * i + 1))))) (17 * i + 7) + ((nn9) * ((va_up (va_up (va_up (catML am σ i) (17 * i + 6) ((catML am σ i) (17 * i + 6) + (cc9))) (17 * i + 4) ((va_up (catML am σ i) (17 * i + 6) ((catML am σ i) (17 * i + 6) + (cc9))) (17 * i + 4) + (cc9))) (17 * i + 4) ((va_up (va_up (catML am σ i) (17 * i + 6) ((catML am σ i) (17 * i + 6) + (cc9))) (17 * i + 4) ((va_up (catML am σ i) (17 * i + 6) ((catML am σ i) (17 * i + 6) + (cc9))) (17 * i + 4) + (cc9))) (17 * i + 4) + ((-(nn9)) * ((va_up (va_up (catML am σ i) (17 * i + 6) ((catML am σ i) (17 * i + 6) + (cc9))) (17 * i + 4) ((va_up (catML am σ i) (17 * i + 6) ((catML am σ i) (17 * i + 6) + (cc9))) (17 * i + 4) + (cc9))) (17 * i + 1))))) (17 * i + 1))))) ar ns hR i 5 (nn9) (by omega)) (cwV 3 ht (gU uw_642 uw_644 uw_13 uw_42 uw_645) rfl rfl rfl (by decide +kernel) ⟨by decide, by decide⟩) hK hM hS (m_recv hK hM (hR.1 Y (by omega) (by omega)) hR.2.1 rfl) rfl hl.1 rfl (Nat.le_of_ble_eq_true rfl) dX8_hour_99 ⟨by decide, by decide⟩ (fun M H locs hp hM hS => ?_)
      obtain ⟨hR, hF1⟩ := hp
      have hF := hF.tr hF1
      refine lv_iload_n hx hb dX8_hour_102 rfl (lv_at hl 3 rfl) ?_
      refine lv_iload hx hb dX8_hour_103 (lv_at hl 0 rfl) ?_
      refine lv_iadd hx hb dX8_hour_105 ?_
      refine lv_istore_n (lv' := [(2, .int ((t) + (nn9))), (5, .int (nn9)), (4, .int (cc9)), (3, .int (nI i)), (0, .ref (Y)), (1, .int (am))]) hx hb dX8_hour_106 rfl hl (by decide) rfl (fun ls hl => ?_)
      refine lv_iinc (v := nI (i + 1)) (lv' := [(3, .int (nI (i + 1))), (2, .int ((t) + (nn9))), (5, .int (nn9)), (4, .int (cc9)), (0, .ref (Y)), (1, .int (am))]) hx hb dX8_hour_107 hl (k := 3) rfl (nI_1 _) (by decide) rfl (fun ls hl => ?_)
      refine lv_goto (tgt := 4) hx hb dX8_hour_110 (by decide) ?_
      exact ih_4 (i + 1) ((t) + (nn9)) _ _ _ _ (by omega) (by omega) (by rw [ht1, e_nn9, e_cc9]; rfl) hM (hR.eqv (by rw [e_nn9, e_cc9]; rfl) rfl rfl) hF hS (lv_sub hl [0, 1, 4, 5] rfl)
  exact loop_4 _ 0 (nI 0) _ _ _ _ (Nat.lt_succ_self _) (by omega) rfl hM hR hF hS (lv_sub hl [0, 1, 2, 3] rfl)

set_option maxHeartbeats 4000000 in
set_option maxRecDepth 100000 in
/-- rains -/
theorem k_X8_rains (l : Launch) (g : GG) (A : Nat → Prop) (M0 : MM) (Y : Nat) (σ : Nat → Int32) (ar : Nat → Nat → Int32) (ns : Nat → Int32) (hR : RepM g A M0 Y σ ar ns) (am : Int32) (N : Nat) (hN : N < 2 ^ 31) (hTN : TN σ)  : Met l yX8_rains (Uw yX8_rains cX8_rains 5 (Option.some ClassFile.FieldType.int)) (rmD 5) (PreM [.ref (Y), .int (am), .int (nI N)] g A M0) (PosI (fun r M1 => r = (patM am σ N) ∧ RepM g A M1 Y (pasM am σ N) (ar) (ns) ∧ FrM Y M0 M1) g A) 0 0 A := by
  refine mk_Met (own := RX8) rfl rfl (by decide) (Nat.le_of_ble_eq_true rfl) ?_
  intro p e s m below meth c ls aa Q haa hQ hx hb hr hlk hml hown hts hK hM hS hl hnm
  obtain ⟨M, hMM⟩ : ∃ M, M = M0 := ⟨_, rfl⟩
  rw [← hMM] at hM hR
  have ht : ∀ w ∈ lw_good, w.before _ s = true := fun w h => hts w (List.mem_cons_of_mem _ h)
  have hF : FrM Y M0 M := by rw [hMM]; exact FrM.rf
  have hl : lv_has ls 5 [(0, .ref (Y)), (1, .int (am)), (2, .int (nI N))] := hl
  refine lv_iconst (v := nI 0) hx hb dX8_rains_0 (by first | rfl | decide) ?_
  refine lv_istore_n (lv' := [(3, .int (nI 0)), (0, .ref (Y)), (1, .int (am)), (2, .int (nI N))]) hx hb dX8_rains_1 rfl hl (by decide) rfl (fun ls hl => ?_)
  refine lv_iconst (v := nI 0) hx hb dX8_rains_2 (by first | rfl | decide) ?_
  refine lv_istore (lv' := [(4, .int (nI 0)), (3, .int (nI 0)), (0, .ref (Y)), (1, .int (am)), (2, .int (nI N))]) hx hb dX8_rains_3 hl (by decide) rfl (fun ls hl => ?_)
  have loop_5 : ∀ (z_5 : Nat) (q : Nat) (t : Int32) (M : MM) (H : Heap) (locs : List Loc) (ls : Array Slot), N - q < z_5 → q ≤ N → t = patM am σ q → HD g A M H → RepM g A M Y (pasM am σ q) ar ns → FrM Y M0 M → va_S A s.heap H locs → lv_has ls 5 [(4, .int (nI q)), (3, .int (t)), (0, .ref (Y)), (1, .int (am)), (2, .int (nI N))] → W p l e (rmD 5) s m aa below meth c H locs 0 0 Q (F0 m 5 ls []) := by
    intro z_5
    induction z_5 with
    | zero => intro q t M H locs ls hz hq ht1; exact absurd hz (Nat.not_lt_zero _)
    | succ z_5 ih_5 =>
    intro q t M H locs ls hz hq ht1 hM hR hF hS hl
    refine lv_iload hx hb dX8_rains_5 (lv_at hl 0 rfl) ?_
    refine lv_iload_n hx hb dX8_rains_7 rfl (lv_at hl 4 rfl) ?_
    refine lv_icmp_ge (tgt := 25) hx hb dX8_rains_8 (by decide) (fun c_8 => ?_) (fun c_8 => ?_)
    · have hqN : q = N := Nat.le_antisymm hq (nI_le_of (by omega) (by omega) c_8)
      subst hqN
      refine lv_iload_n hx hb dX8_rains_25 rfl (lv_at hl 1 rfl) ?_
      subst hQ
      exact m_zret hx hb hr (rfl) hlk hK hM hS dX8_rains_26 (⟨ht1, hR, hF⟩)
    · have hqN : q < N := nI_lt_of (by omega) (by omega) c_8
      obtain ⟨n, hn20, hn, hT⟩ := pasM_TN hTN am q
      refine lv_iload_n hx hb dX8_rains_11 rfl (lv_at hl 1 rfl) ?_
      refine lv_aload_n hx hb dX8_rains_12 rfl (lv_at hl 2 rfl) ?_
      refine lv_iload_n hx hb dX8_rains_13 rfl (lv_at hl 3 rfl) ?_
      refine m_callI (As := [.int (am)]) (rest := [.int (t)]) ⟨hx, hb, hml, hown, ht⟩ (k_X8_hour l g A M Y (pasM am σ q) ar ns hR am n hn hn20 hT) (cwV 1 ht (gU uw_675 uw_677 uw_18 uw_42 uw_678) rfl rfl rfl (by decide +kernel) ⟨by decide, by decide⟩) hK hM hS (m_recv hK hM (hR.1 Y (by omega) (by omega)) hR.2.1 rfl) rfl hl.1 rfl (Nat.le_of_ble_eq_true rfl) dX8_rains_14 ⟨by decide, by decide⟩ (fun r9 M H locs hp hM hS => ?_)
      obtain ⟨e9, hR, hF1⟩ := hp
      subst e9
      have hF := hF.tr hF1
      refine lv_iadd hx hb dX8_rains_17 ?_
      refine lv_istore_n (lv' := [(3, .int ((t) + (tisM am (pasM am σ q) 0 6))), (4, .int (nI q)), (0, .ref (Y)), (1, .int (am)), (2, .int (nI N))]) hx hb dX8_rains_18 rfl hl (by decide) rfl (fun ls hl => ?_)
      refine lv_iinc (v := nI (q + 1)) (lv' := [(4, .int (nI (q + 1))), (3, .int ((t) + (tisM am (pasM am σ q) 0 6))), (0, .ref (Y)), (1, .int (am)), (2, .int (nI N))]) hx hb dX8_rains_19 hl (k := 1) rfl (nI_1 _) (by decide) rfl (fun ls hl => ?_)
      refine lv_goto (tgt := 5) hx hb dX8_rains_22 (by decide) ?_
      exact ih_5 (q + 1) ((t) + (tisM am (pasM am σ q) 0 6)) _ _ _ _ (by omega) (by omega) (by rw [ht1]; rfl) hM (hR.eqv (hou_eq hn hn20) rfl rfl) hF hS (lv_sub hl [0, 1, 2, 3, 4] rfl)
  exact loop_5 _ 0 (nI 0) _ _ _ _ (Nat.lt_succ_self _) (Nat.zero_le _) rfl hM hR hF hS (lv_sub hl [0, 1, 2, 3, 4] rfl)
