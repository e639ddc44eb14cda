theorem dL_law_0 : decode cL_law 0 = .ok (.new 15, 3) := by decide +kernel
theorem dL_law_3 : decode cL_law 3 = .ok (.dup, 1) := by decide +kernel
theorem dL_law_4 : decode cL_law 4 = .ok (.invokespecial 65, 3) := by decide +kernel
theorem dL_law_7 : decode cL_law 7 = .ok (.astore_n 1, 1) := by decide +kernel
theorem dL_law_8 : decode cL_law 8 = .ok (.iconst 0, 1) := by decide +kernel
theorem dL_law_9 : decode cL_law 9 = .ok (.istore_n 2, 1) := by decide +kernel
theorem dL_law_10 : decode cL_law 10 = .ok (.iload_n 2, 1) := by decide +kernel
theorem dL_law_11 : decode cL_law 11 = .ok (.bipush 52, 2) := by decide +kernel
theorem dL_law_13 : decode cL_law 13 = .ok (.if_icmp .ge 99, 3) := by decide +kernel
theorem dL_law_16 : decode cL_law 16 = .ok (.aload_n 0, 1) := by decide +kernel
theorem dL_law_17 : decode cL_law 17 = .ok (.iload_n 2, 1) := by decide +kernel
theorem dL_law_18 : decode cL_law 18 = .ok (.invokestatic 66, 3) := by decide +kernel
theorem dL_law_21 : decode cL_law 21 = .ok (.istore_n 3, 1) := by decide +kernel
theorem dL_law_22 : decode cL_law 22 = .ok (.aload_n 1, 1) := by decide +kernel
theorem dL_law_23 : decode cL_law 23 = .ok (.iload_n 3, 1) := by decide +kernel
theorem dL_law_24 : decode cL_law 24 = .ok (.invokestatic 70, 3) := by decide +kernel
theorem dL_law_27 : decode cL_law 27 = .ok (.ifCond .lt 77, 3) := by decide +kernel
theorem dL_law_30 : decode cL_law 30 = .ok (.aload_n 1, 1) := by decide +kernel
theorem dL_law_31 : decode cL_law 31 = .ok (.invokestatic 74, 3) := by decide +kernel
theorem dL_law_34 : decode cL_law 34 = .ok (.ifCond .eq 70, 3) := by decide +kernel
theorem dL_law_37 : decode cL_law 37 = .ok (.aload_n 1, 1) := by decide +kernel
theorem dL_law_38 : decode cL_law 38 = .ok (.iload_n 3, 1) := by decide +kernel
theorem dL_law_39 : decode cL_law 39 = .ok (.iconst 5, 1) := by decide +kernel
theorem dL_law_40 : decode cL_law 40 = .ok (.ishr, 1) := by decide +kernel
theorem dL_law_41 : decode cL_law 41 = .ok (.bipush 6, 2) := by decide +kernel
theorem dL_law_43 : decode cL_law 43 = .ok (.invokestatic 8, 3) := by decide +kernel
theorem dL_law_46 : decode cL_law 46 = .ok (.invokestatic 78, 3) := by decide +kernel
theorem dL_law_49 : decode cL_law 49 = .ok (.ifCond .eq 55, 3) := by decide +kernel
theorem dL_law_52 : decode cL_law 52 = .ok (.iload_n 2, 1) := by decide +kernel
theorem dL_law_53 : decode cL_law 53 = .ok (.iconst 2, 1) := by decide +kernel
theorem dL_law_54 : decode cL_law 54 = .ok (.irem, 1) := by decide +kernel
theorem dL_law_55 : decode cL_law 55 = .ok (.ifCond .ne 18, 3) := by decide +kernel
theorem dL_law_58 : decode cL_law 58 = .ok (.aload_n 1, 1) := by decide +kernel
theorem dL_law_59 : decode cL_law 59 = .ok (.iload_n 3, 1) := by decide +kernel
theorem dL_law_60 : decode cL_law 60 = .ok (.iconst 3, 1) := by decide +kernel
theorem dL_law_61 : decode cL_law 61 = .ok (.ishr, 1) := by decide +kernel
theorem dL_law_62 : decode cL_law 62 = .ok (.bipush 6, 2) := by decide +kernel
theorem dL_law_64 : decode cL_law 64 = .ok (.invokestatic 8, 3) := by decide +kernel
theorem dL_law_67 : decode cL_law 67 = .ok (.invokestatic 82, 3) := by decide +kernel
theorem dL_law_70 : decode cL_law 70 = .ok (.ifCond .eq 34, 3) := by decide +kernel
theorem dL_law_73 : decode cL_law 73 = .ok (.iload_n 2, 1) := by decide +kernel
theorem dL_law_74 : decode cL_law 74 = .ok (.iconst 2, 1) := by decide +kernel
theorem dL_law_75 : decode cL_law 75 = .ok (.irem, 1) := by decide +kernel
theorem dL_law_76 : decode cL_law 76 = .ok (.iconst 1, 1) := by decide +kernel
theorem dL_law_77 : decode cL_law 77 = .ok (.if_icmp .ne 29, 3) := by decide +kernel
theorem dL_law_80 : decode cL_law 80 = .ok (.aload_n 1, 1) := by decide +kernel
theorem dL_law_81 : decode cL_law 81 = .ok (.iload_n 3, 1) := by decide +kernel
theorem dL_law_82 : decode cL_law 82 = .ok (.bipush 7, 2) := by decide +kernel
theorem dL_law_84 : decode cL_law 84 = .ok (.ishr, 1) := by decide +kernel
theorem dL_law_85 : decode cL_law 85 = .ok (.bipush 6, 2) := by decide +kernel
theorem dL_law_87 : decode cL_law 87 = .ok (.invokestatic 8, 3) := by decide +kernel
theorem dL_law_90 : decode cL_law 90 = .ok (.iload_n 3, 1) := by decide +kernel
theorem dL_law_91 : decode cL_law 91 = .ok (.iconst 4, 1) := by decide +kernel
theorem dL_law_92 : decode cL_law 92 = .ok (.ishr, 1) := by decide +kernel
theorem dL_law_93 : decode cL_law 93 = .ok (.bipush 30, 2) := by decide +kernel
theorem dL_law_95 : decode cL_law 95 = .ok (.invokestatic 8, 3) := by decide +kernel
theorem dL_law_98 : decode cL_law 98 = .ok (.invokestatic 85, 3) := by decide +kernel
theorem dL_law_101 : decode cL_law 101 = .ok (.ifCond .ne 5, 3) := by decide +kernel
theorem dL_law_104 : decode cL_law 104 = .ok (.iconst 0, 1) := by decide +kernel
theorem dL_law_105 : decode cL_law 105 = .ok (.ireturn, 1) := by decide +kernel
theorem dL_law_106 : decode cL_law 106 = .ok (.iinc 2 1, 3) := by decide +kernel
theorem dL_law_109 : decode cL_law 109 = .ok (.goto (-99), 3) := by decide +kernel
theorem dL_law_112 : decode cL_law 112 = .ok (.iconst 1, 1) := by decide +kernel
theorem dL_law_113 : decode cL_law 113 = .ok (.ireturn, 1) := by decide +kernel
theorem ini_GA : ∀ i : Fin 6, (1 ≤ (iniG i.val 0).toInt ∧ (iniG i.val 0).toInt ≤ 9) ∧ (1 ≤ (iniG i.val 1).toInt ∧ (iniG i.val 1).toInt ≤ 50) ∧ (0 ≤ (iniG i.val 2).toInt ∧ (iniG i.val 2).toInt ≤ 200) ∧ 0 ≤ (iniG i.val 4).toInt ∧ 0 ≤ (iniG i.val 5).toInt ∧ (iniG i.val 5).toInt ≤ (iniG i.val 7).toInt ∧ (iniG i.val 4).toInt + (iniG i.val 7).toInt = (iniG i.val 6).toInt ∧ (iniG i.val 6).toInt ≤ 0 := by decide +kernel
theorem ini_zPI : zPI 9 0 iniV 0 0 := by
  refine ⟨by omega, rfl, ⟨10, by omega, by omega, rfl⟩, rfl, fun i hi => ⟨?_, ?_⟩, fun j hj => absurd hj (Nat.not_lt_zero j)⟩
  · obtain ⟨h1, h2, h3, h4, h5, h6, h7, h8⟩ := ini_GA ⟨i, hi⟩
    exact ⟨h1, h2, h3, ⟨i, by omega, rfl⟩, h4, h5, h6, h7, by have z : (iniG i 6).toInt ≤ 0 := h8; show (iniG i 6).toInt ≤ _; omega⟩
  · refine ⟨⟨0, by omega, rfl⟩, ⟨Int.le_refl _, Int.le_refl _⟩, ⟨Int.le_refl _, Int.le_refl _⟩, ⟨Int.le_refl _, Int.le_refl _⟩, fun _ => ⟨rfl, rfl⟩⟩
theorem ini_zSI : zSI 9 0 0 iniC :=
  ⟨⟨ini_on, Nat.zero_le _, fun _ _ => ini_on, fun _ _ => ini_on, Nat.zero_le _, fun _ _ => ⟨rfl, rfl⟩⟩, ⟨0, 0, Nat.le_refl 0, by decide, ini_zPI⟩, fun j hj => absurd hj (Nat.not_lt_zero j)⟩
set_option maxHeartbeats 40000000 in
set_option maxRecDepth 100000 in
theorem law_loop {p : Program} {e : Env} {s : State} {m : MethodId} {below : List Frame} {meth : Method} {c : Code} (l : Launch) {b L : Nat} {xs : Nat → Int32} (hL : L ≤ 260) (C0 : lw_At p s m meth c b L xs) (g : GG) (hK : KK g s) (X : Nat) (hsz : X = s.heap.size) (A : Nat → Prop) (hAX : ∀ q, A q → X ≤ q) : ∀ (z e9 : Nat) (κ : CS) (M : MM) (H : Heap) (locs : List Loc) (ls : Array Slot), 52 - e9 < z → e9 ≤ 52 → RXS g A M M X κ → zSI (9 + e9) (66 * e9) (3000 * e9) κ → HD g A M H → va_S A s.heap H locs → lv_has ls 4 [(2, .int (nI e9)), (1, .ref X), (0, .ref b)] → W p l e room_1 s m #[Value.ref b] below meth c H locs 358 2427 (lw_Z below #[Value.ref b] s) (F0 m 10 ls []) := by
  obtain ⟨hx, hb, hr, hml, hown, hts, hsc, hbl, hlk, -⟩ := id C0
  have hown : s.vm.findClass RL = some m.cls := hown
  have ht : ∀ w ∈ lw_good, w.before #[Value.ref b] s = true := fun w h => hts w (good_tbl w h)
  have hbA : ¬ A b := fun z => by have := hAX b z; omega
  intro z
  induction z with
  | zero => intro e9 κ M H locs ls hz; exact absurd hz (Nat.not_lt_zero _)
  | succ z ih =>
  intro e9 κ M H locs ls hz he hXS S hM hS hl
  have nxt : e9 < 52 → ∀ (κ : CS) (M : MM) (H : Heap) (locs : List Loc) (ls : Array Slot), RXS g A M M X κ → zSI (9 + e9 + 1) (66 * e9 + 66) (3000 * e9 + 3000) κ → HD g A M H → va_S A s.heap H locs → lv_has ls 4 [(2, .int (nI e9)), (1, .ref X), (0, .ref b)] → W p l e room_1 s m #[Value.ref b] below meth c H locs 358 2427 (lw_Z below #[Value.ref b] s) (F0 m 106 ls []) := by
    intro he2 κ M H locs ls hXS S hM hS hl
    refine lv_iinc (v := nI (e9 + 1)) (lv' := [(2, .int (nI (e9 + 1))), (1, .ref X), (0, .ref b)]) hx hb dL_law_106 hl (k := 0) rfl (nI_1 e9) (by decide) rfl (fun ls hl => ?_)
    refine lv_goto (tgt := 10) hx hb dL_law_109 (by decide) ?_
    exact ih (e9 + 1) κ M H locs ls (by omega) (by omega) hXS (S.mono (by omega) (by omega) (by omega)) hM hS hl
  refine lv_iload_n hx hb dL_law_10 rfl (lv_at hl 0 rfl) ?_
  refine lv_bipush (v := nI 52) hx hb dL_law_11 (by first | rfl | decide) ?_
  refine lv_icmp_ge (tgt := 112) hx hb dL_law_13 (by decide) (fun c_13 => ?_) (fun c_13 => ?_)
  · refine lv_iconst (v := nI 1) hx hb dL_law_112 (by first | rfl | decide) ?_
    refine va_forget (fun q hq => hsz ▸ hAX _ (hS.2.2 q hq)) ?_
    refine W.widen (k := 676901) (n := 7071544) (Nat.le_of_ble_eq_true rfl) (Nat.le_of_ble_eq_true rfl) ?_
    exact lw_ret hx hb hr hlk dL_law_113
  · have h13 : e9 < 52 := nI_lt_of (by omega) (by omega) c_13
    have nxt := nxt h13
    refine lv_aload_n hx hb dL_law_16 rfl (lv_at hl 2 rfl) ?_
    refine lv_iload_n hx hb dL_law_17 rfl (lv_at hl 0 rfl) ?_
    refine m_callC (As := [.ref (b), .int (nI e9)]) (rest := []) ⟨hx, hb, hml, hown, ht⟩ (k_L_cell l g A M b L xs hbA hL e9 (by omega)) (cwS 2 ht (gUS uw_2001 uw_2002 uw_33 uw_2003) rfl rfl rfl (by decide +kernel) ⟨Nat.le_of_ble_eq_true rfl, Nat.le_of_ble_eq_true rfl⟩) hK hM hS hsc hbl hbA rfl hl.1 rfl (Nat.le_of_ble_eq_true rfl) dL_law_18 ⟨Nat.le_of_ble_eq_true rfl, Nat.le_of_ble_eq_true rfl⟩ (fun v9 M H locs hp hM hS => ?_)
    rw [← hp] at hXS
    refine lv_istore_n (lv' := [(3, .int (v9)), (2, .int (nI e9)), (1, .ref (X)), (0, .ref (b))]) hx hb dL_law_21 rfl hl (by decide) rfl (fun ls hl => ?_)
    refine lv_aload_n hx hb dL_law_22 rfl (lv_at hl 2 rfl) ?_
    refine lv_iload_n hx hb dL_law_23 rfl (lv_at hl 0 rfl) ?_
    refine m_callSI (As := [.ref (X), .int (v9)]) (rest := []) ⟨hx, hb, hml, hown, ht⟩ (k_L_does l g A M X κ (9 + e9) (66 * e9) (3000 * e9) hXS S (by omega) (by omega) (by omega) (by omega) v9) (cwS 2 ht (gUS uw_2008 uw_2009 uw_33 uw_2010) rfl rfl rfl (by decide +kernel) ⟨Nat.le_of_ble_eq_true rfl, Nat.le_of_ble_eq_true rfl⟩) hK hM hS rfl hl.1 rfl (Nat.le_of_ble_eq_true rfl) dL_law_24 ⟨Nat.le_of_ble_eq_true rfl, Nat.le_of_ble_eq_true rfl⟩ (fun r9 M H locs hp hM hS => ?_)
    obtain ⟨h24, c1, hXS, S1⟩ := hp
    refine lv_if_lt (tgt := 104) hx hb dL_law_27 (by decide) (fun c_27 => absurd c_27 (h24)) (fun c_27 => ?_)
    refine lv_aload_n hx hb dL_law_30 rfl (lv_at hl 2 rfl) ?_
    refine m_callRSI (val := 1) (As := [.ref (X)]) (rest := []) ⟨hx, hb, hml, hown, ht⟩ (k_L_isValleySo l g A M X c1 _ _ _ hXS S1 (by omega) (by omega)) (cwS 1 ht (gUS uw_2014 uw_2015 uw_33 uw_2016) rfl rfl rfl (by decide +kernel) ⟨Nat.le_of_ble_eq_true rfl, Nat.le_of_ble_eq_true rfl⟩) hK hM hS rfl hl.1 rfl (Nat.le_of_ble_eq_true rfl) dL_law_31 ⟨Nat.le_of_ble_eq_true rfl, Nat.le_of_ble_eq_true rfl⟩ (fun H locs hM hS => ?_)
    refine lv_if_eq (tgt := 104) hx hb dL_law_34 (by decide) (fun c_34 => absurd c_34 (by decide)) (fun c_34 => ?_)
    refine lv_aload_n hx hb dL_law_37 rfl (lv_at hl 2 rfl) ?_
    refine lv_iload_n hx hb dL_law_38 rfl (lv_at hl 0 rfl) ?_
    refine lv_iconst (v := nI 5) hx hb dL_law_39 (by first | rfl | decide) ?_
    refine lv_ishr hx hb dL_law_40 ?_
    refine lv_bipush (v := nI 6) hx hb dL_law_41 (by first | rfl | decide) ?_
    obtain ⟨q_43, hq_43, e_43⟩ := lo_in ((v9) >>> (nI 5)) (m := 6) (by decide) (by decide)
    refine m_callRSI (val := nI q_43) (As := [.int ((v9) >>> (nI 5)), .int (nI 6)]) (rest := [.ref (X)]) ⟨hx, hb, hml, hown, ht⟩ (q_low l g A M (by decide) e_43) (cwS 2 ht (gUS uw_2004 uw_2005 uw_33 uw_2006) rfl rfl rfl (by decide +kernel) ⟨Nat.le_of_ble_eq_true rfl, Nat.le_of_ble_eq_true rfl⟩) hK hM hS rfl hl.1 rfl (Nat.le_of_ble_eq_true rfl) dL_law_43 ⟨Nat.le_of_ble_eq_true rfl, Nat.le_of_ble_eq_true rfl⟩ (fun H locs hM hS => ?_)
    refine m_callSI (As := [.ref (X), .int (nI q_43)]) (rest := []) ⟨hx, hb, hml, hown, ht⟩ (k_L_isSentSo l g A M X c1 _ _ _ hXS S1 (by omega) (by omega) (by omega) q_43 hq_43) (cwS 2 ht (gUS uw_2019 uw_2020 uw_33 uw_2021) rfl rfl rfl (by decide +kernel) ⟨Nat.le_of_ble_eq_true rfl, Nat.le_of_ble_eq_true rfl⟩) hK hM hS rfl hl.1 rfl (Nat.le_of_ble_eq_true rfl) dL_law_46 ⟨Nat.le_of_ble_eq_true rfl, Nat.le_of_ble_eq_true rfl⟩ (fun r8 M H locs hp hM hS => ?_)
    obtain ⟨e46, c2, hXS, S2⟩ := hp
    subst e46
    refine lv_if_eq (tgt := 104) hx hb dL_law_49 (by decide) (fun c_49 => absurd c_49 (by decide)) (fun c_49 => ?_)
    refine lv_iload_n hx hb dL_law_52 rfl (lv_at hl 1 rfl) ?_
    refine lv_iconst (v := nI 2) hx hb dL_law_53 (by first | rfl | decide) ?_
    refine lv_irem hx hb dL_law_54 (by decide) ?_
    refine lv_if_ne (tgt := 73) hx hb dL_law_55 (by decide) (fun c_55 => ?_) (fun c_55 => ?_)
    · refine lv_iload_n hx hb dL_law_73 rfl (lv_at hl 1 rfl) ?_
      refine lv_iconst (v := nI 2) hx hb dL_law_74 (by first | rfl | decide) ?_
      refine lv_irem hx hb dL_law_75 (by decide) ?_
      refine lv_iconst (v := nI 1) hx hb dL_law_76 (by first | rfl | decide) ?_
      refine lv_icmp_ne (tgt := 106) hx hb dL_law_77 (by decide) (fun c_77 => ?_) (fun c_77 => ?_)
      · exact nxt _ _ _ _ _ hXS (S2.mono (by omega) (by omega) (by omega)) hM hS (lv_sub hl [1, 2, 3] rfl)
      · refine lv_aload_n hx hb dL_law_80 rfl (lv_at hl 2 rfl) ?_
        refine lv_iload_n hx hb dL_law_81 rfl (lv_at hl 0 rfl) ?_
        refine lv_bipush (v := nI 7) hx hb dL_law_82 (by first | rfl | decide) ?_
        refine lv_ishr hx hb dL_law_84 ?_
        refine lv_bipush (v := nI 6) hx hb dL_law_85 (by first | rfl | decide) ?_
        obtain ⟨q_87, hq_87, e_87⟩ := lo_in ((v9) >>> (nI 7)) (m := 6) (by decide) (by decide)
        refine m_callRSI (val := nI q_87) (As := [.int ((v9) >>> (nI 7)), .int (nI 6)]) (rest := [.ref (X)]) ⟨hx, hb, hml, hown, ht⟩ (q_low l g A M (by decide) e_87) (cwS 2 ht (gUS uw_2004 uw_2005 uw_33 uw_2006) rfl rfl rfl (by decide +kernel) ⟨Nat.le_of_ble_eq_true rfl, Nat.le_of_ble_eq_true rfl⟩) hK hM hS rfl hl.1 rfl (Nat.le_of_ble_eq_true rfl) dL_law_87 ⟨Nat.le_of_ble_eq_true rfl, Nat.le_of_ble_eq_true rfl⟩ (fun H locs hM hS => ?_)
        refine lv_iload_n hx hb dL_law_90 rfl (lv_at hl 0 rfl) ?_
        refine lv_iconst (v := nI 4) hx hb dL_law_91 (by first | rfl | decide) ?_
        refine lv_ishr hx hb dL_law_92 ?_
        refine lv_bipush (v := nI 30) hx hb dL_law_93 (by first | rfl | decide) ?_
        obtain ⟨q_95, hq_95, e_95⟩ := lo_in ((v9) >>> (nI 4)) (m := 30) (by decide) (by decide)
        refine m_callRSI (val := nI q_95) (As := [.int ((v9) >>> (nI 4)), .int (nI 30)]) (rest := [.int (nI q_87), .ref (X)]) ⟨hx, hb, hml, hown, ht⟩ (q_low l g A M (by decide) e_95) (cwS 2 ht (gUS uw_2004 uw_2005 uw_33 uw_2006) rfl rfl rfl (by decide +kernel) ⟨Nat.le_of_ble_eq_true rfl, Nat.le_of_ble_eq_true rfl⟩) hK hM hS rfl hl.1 rfl (Nat.le_of_ble_eq_true rfl) dL_law_95 ⟨Nat.le_of_ble_eq_true rfl, Nat.le_of_ble_eq_true rfl⟩ (fun H locs hM hS => ?_)
        refine m_callSI (As := [.ref (X), .int (nI q_87), .int (nI q_95)]) (rest := []) ⟨hx, hb, hml, hown, ht⟩ (k_L_isRoundSo l g A M X c2 _ _ _ hXS S2 (by omega) (by omega) (by omega) q_87 hq_87 q_95 hq_95) (cwS 3 ht (gUS uw_2026 uw_2027 uw_33 uw_2028) rfl rfl rfl (by decide +kernel) ⟨Nat.le_of_ble_eq_true rfl, Nat.le_of_ble_eq_true rfl⟩) hK hM hS rfl hl.1 rfl (Nat.le_of_ble_eq_true rfl) dL_law_98 ⟨Nat.le_of_ble_eq_true rfl, Nat.le_of_ble_eq_true rfl⟩ (fun r6 M H locs hp hM hS => ?_)
        obtain ⟨e98, c4, hXS, S4⟩ := hp
        subst e98
        refine lv_if_ne (tgt := 106) hx hb dL_law_101 (by decide) (fun c_101 => ?_) (fun c_101 => absurd c_101 (by decide))
        exact nxt _ _ _ _ _ hXS (S4.mono (by omega) (by omega) (by omega)) hM hS (lv_sub hl [1, 2, 3] rfl)
    · refine lv_aload_n hx hb dL_law_58 rfl (lv_at hl 2 rfl) ?_
      refine lv_iload_n hx hb dL_law_59 rfl (lv_at hl 0 rfl) ?_
      refine lv_iconst (v := nI 3) hx hb dL_law_60 (by first | rfl | decide) ?_
      refine lv_ishr hx hb dL_law_61 ?_
      refine lv_bipush (v := nI 6) hx hb dL_law_62 (by first | rfl | decide) ?_
      obtain ⟨q_64, hq_64, e_64⟩ := lo_in ((v9) >>> (nI 3)) (m := 6) (by decide) (by decide)
      refine m_callRSI (val := nI q_64) (As := [.int ((v9) >>> (nI 3)), .int (nI 6)]) (rest := [.ref (X)]) ⟨hx, hb, hml, hown, ht⟩ (q_low l g A M (by decide) e_64) (cwS 2 ht (gUS uw_2004 uw_2005 uw_33 uw_2006) rfl rfl rfl (by decide +kernel) ⟨Nat.le_of_ble_eq_true rfl, Nat.le_of_ble_eq_true rfl⟩) hK hM hS rfl hl.1 rfl (Nat.le_of_ble_eq_true rfl) dL_law_64 ⟨Nat.le_of_ble_eq_true rfl, Nat.le_of_ble_eq_true rfl⟩ (fun H locs hM hS => ?_)
      refine m_callSI (As := [.ref (X), .int (nI q_64)]) (rest := []) ⟨hx, hb, hml, hown, ht⟩ (k_L_isAllSo l g A M X c2 _ _ _ hXS S2 (by omega) (by omega) (by omega) q_64 hq_64) (cwS 2 ht (gUS uw_2022 uw_2023 uw_33 uw_2024) rfl rfl rfl (by decide +kernel) ⟨Nat.le_of_ble_eq_true rfl, Nat.le_of_ble_eq_true rfl⟩) hK hM hS rfl hl.1 rfl (Nat.le_of_ble_eq_true rfl) dL_law_67 ⟨Nat.le_of_ble_eq_true rfl, Nat.le_of_ble_eq_true rfl⟩ (fun r7 M H locs hp hM hS => ?_)
      obtain ⟨e67, c3, hXS, S3⟩ := hp
      subst e67
      refine lv_if_eq (tgt := 104) hx hb dL_law_70 (by decide) (fun c_70 => absurd c_70 (by decide)) (fun c_70 => ?_)
      refine lv_iload_n hx hb dL_law_73 rfl (lv_at hl 1 rfl) ?_
      refine lv_iconst (v := nI 2) hx hb dL_law_74 (by first | rfl | decide) ?_
      refine lv_irem hx hb dL_law_75 (by decide) ?_
      refine lv_iconst (v := nI 1) hx hb dL_law_76 (by first | rfl | decide) ?_
      refine lv_icmp_ne (tgt := 106) hx hb dL_law_77 (by decide) (fun c_77 => ?_) (fun c_77 => absurd c_77 (fun z => absurd (c_55.symm.trans z) (by decide)))
      exact nxt _ _ _ _ _ hXS (S3.mono (by omega) (by omega) (by omega)) hM hS (lv_sub hl [1, 2, 3] rfl)
