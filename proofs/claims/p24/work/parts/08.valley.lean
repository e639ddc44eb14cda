set_option maxHeartbeats 4000000 in
set_option maxRecDepth 100000 in
/-- WHEEL is set -/
theorem k_X6_changeWheels (l : Launch) (g : GG) (A : Nat → Prop) (M0 : MM) (b : Nat) (π : Nat → Nat) (v : VV) (x : Int32) (hR : RepV g A M0 b π v) (n : Nat) (hn : v.1 3 = nI n) (hn20 : n ≤ 20)  : Met l yX6_changeWheels (Uw yX6_changeWheels cX6_changeWheels 3 (Option.none : Option ClassFile.FieldType)) (rmD 2) (PreM [.ref (b), .int (x)] g A M0) (PosV (fun M1 => RepV g A M1 b π (chgC v n x) ∧ FrV b M0 M1) g A) 0 0 A := by
  refine mk_Met (own := RX6) rfl rfl (by decide) (Nat.le_of_ble_eq_true rfl) ?_
  intro p e s m below meth c ls aa Q haa hQ hx hb hr hlk hml hown hts hK hM hS hl hnm
  obtain ⟨M, hMM⟩ : ∃ M, M = M0 := ⟨_, rfl⟩
  rw [← hMM] at hM hR
  have ht : ∀ w ∈ lw_good, w.before _ s = true := fun w h => hts w (List.mem_cons_of_mem _ h)
  have hF : FrV b M0 M := by rw [hMM]; exact FrV.rf
  have hl : lv_has ls 3 [(0, .ref (b)), (1, .int (x))] := hl
  refine lv_iconst (v := nI 0) hx hb dX6_changeWheels_0 (by first | rfl | decide) ?_
  refine lv_istore_n (lv' := [(2, .int (nI 0)), (0, .ref (b)), (1, .int (x))]) hx hb dX6_changeWheels_1 rfl hl (by decide) rfl (fun ls hl => ?_)
  have loop_2 : ∀ (z_2 : Nat) (k : Nat) (M : MM) (H : Heap) (locs : List Loc) (ls : Array Slot), n - k < z_2 → k ≤ n → HD g A M H → RepV g A M b π (cosL v k) → FrV b M0 M → va_S A s.heap H locs → lv_has ls 3 [(2, .int (nI k)), (0, .ref (b)), (1, .int (x))] → W p l e (rmD 2) s m aa below meth c H locs 0 0 Q (F0 m 2 ls []) := by
    intro z_2
    induction z_2 with
    | zero => intro k M H locs ls hz hk; exact absurd hz (Nat.not_lt_zero _)
    | succ z_2 ih_2 =>
    intro k M H locs ls hz hk hM hR hF hS hl
    have e3 : (cosL v k).1 3 = nI n := by rw [cosL_1, hn]
    refine lv_iload_n hx hb dX6_changeWheels_2 rfl (lv_at hl 0 rfl) ?_
    refine lv_aload_n hx hb dX6_changeWheels_3 rfl (lv_at hl 1 rfl) ?_
    refine rv_getW hx hb ht ui_X6 hown hK hM hR 3 (by decide) (ht _ uw_194) dX6_changeWheels_4 ?_
    refine lv_icmp_ge (tgt := 35) hx hb dX6_changeWheels_7 (by decide) (fun c_7 => ?_) (fun c_7 => ?_)
    · rw [e3] at c_7
      have hkn : k = n := Nat.le_antisymm hk (nI_le_of (by omega) (by omega) c_7)
      subst hkn
      refine lv_aload_n hx hb dX6_changeWheels_35 rfl (lv_at hl 1 rfl) ?_
      refine lv_iconst (v := nI 0) hx hb dX6_changeWheels_36 (by first | rfl | decide) ?_
      refine rv_putW hx hb ht ui_X6 hown hK hM hS hR hF 3 (by decide) (ht _ uw_194) dX6_changeWheels_37 (fun M H locs hM hR hF hS => ?_)
      refine lv_aload_n hx hb dX6_changeWheels_40 rfl (lv_at hl 1 rfl) ?_
      refine lv_iload_n hx hb dX6_changeWheels_41 rfl (lv_at hl 2 rfl) ?_
      refine rv_putW hx hb ht ui_X6 hown hK hM hS hR hF 0 (by decide) (ht _ uw_188) dX6_changeWheels_42 (fun M H locs hM hR hF hS => ?_)
      subst hQ
      exact m_vret hx hb hr hlk hK hM hS dX6_changeWheels_45 (⟨hR, hF⟩)
    · rw [e3] at c_7
      have hkn : k < n := nI_lt_of (by omega) (by omega) c_7
      refine lv_iload_n hx hb dX6_changeWheels_10 rfl (lv_at hl 0 rfl) ?_
      refine lv_aload_n hx hb dX6_changeWheels_11 rfl (lv_at hl 1 rfl) ?_
      refine rv_getra hx hb ht ui_X6 hown hK hM hR (ht _ uw_198) dX6_changeWheels_12 ?_
      refine rv_lenR hx hb hK hM hR dX6_changeWheels_15 ?_
      refine lv_icmp_ge (tgt := 35) hx hb dX6_changeWheels_16 (by decide) (fun c_16 => absurd c_16 (nI_ge (show k < 20 by omega) (by decide))) (fun c_16 => ?_)
      refine lv_aload_n hx hb dX6_changeWheels_19 rfl (lv_at hl 1 rfl) ?_
      refine lv_aload_n hx hb dX6_changeWheels_20 rfl (lv_at hl 1 rfl) ?_
      refine rv_getra hx hb ht ui_X6 hown hK hM hR (ht _ uw_198) dX6_changeWheels_21 ?_
      refine lv_iload_n hx hb dX6_changeWheels_24 rfl (lv_at hl 0 rfl) ?_
      refine rv_aldR hx hb hK hM hR (show k < 20 by omega) dX6_changeWheels_25 ?_
      refine m_callV (As := [.ref (b + 15 + π k)]) (rest := []) ⟨hx, hb, hml, hown, ht⟩ (k_X6_countAsLost l g A M b π (cosL v k) k hR (by omega)) (cwV 1 ht (gU uw_332 uw_333 uw_334 uw_35 uw_335) rfl rfl rfl (by decide +kernel) ⟨by decide, by decide⟩) hK hM hS (m_recv hK hM hR.AW hR.W rfl) rfl hl.1 rfl (Nat.le_of_ble_eq_true rfl) dX6_changeWheels_26 ⟨by decide, by decide⟩ (fun M H locs hp hM hS => ?_)
      obtain ⟨hR, hF1⟩ := hp
      have hF := hF.tr hF1
      refine lv_iinc (v := nI (k + 1)) (lv' := [(2, .int (nI (k + 1))), (0, .ref (b)), (1, .int (x))]) hx hb dX6_changeWheels_29 hl (k := 0) rfl (nI_1 _) (by decide) rfl (fun ls hl => ?_)
      refine lv_goto (tgt := 2) hx hb dX6_changeWheels_32 (by decide) ?_
      exact ih_2 (k + 1) _ _ _ _ (by omega) (by omega) hM hR hF hS (lv_sub hl [0, 1, 2] rfl)
  exact loop_2 _ 0 _ _ _ _ (Nat.lt_succ_self _) (Nat.zero_le _) hM hR hF hS (lv_sub hl [0, 1, 2] rfl)

set_option maxHeartbeats 4000000 in
set_option maxRecDepth 100000 in
/-- the row of one more runner -/
theorem k_X6_addRunner (l : Launch) (g : GG) (A : Nat → Prop) (M0 : MM) (b : Nat) (π : Nat → Nat) (v : VV) (hR : RepV g A M0 b π v) (n : Nat) (hn : v.1 3 = nI n) (hn20 : n ≤ 20)  : Met l yX6_addRunner (Uw yX6_addRunner cX6_addRunner 2 (Option.some (ClassFile.FieldType.object "ToldDrops$Runner"))) (rmD 0) (PreM [.ref (b)] g A M0) (PosQ (fun r M1 => (n < 20 → r = some (b + 15 + π n) ∧ RepV g A M1 b π (vW v 3 (nI n + 1)) ∧ FrV b M0 M1) ∧ (¬ n < 20 → r = none ∧ M1 = M0)) g A) 0 0 A := by
  refine mk_Met (own := RX6) rfl rfl (by decide) (Nat.le_of_ble_eq_true rfl) ?_
  intro p e s m below meth c ls aa Q haa hQ hx hb hr hlk hml hown hts hK hM hS hl hnm
  obtain ⟨M, hMM⟩ : ∃ M, M = M0 := ⟨_, rfl⟩
  rw [← hMM] at hM hR
  have ht : ∀ w ∈ lw_good, w.before _ s = true := fun w h => hts w (List.mem_cons_of_mem _ h)
  have hF : FrV b M0 M := by rw [hMM]; exact FrV.rf
  have hl : lv_has ls 2 [(0, .ref (b))] := hl
  have hn4 : ¬ nI n < 0 := nI_pos (by omega)
  refine lv_aload_n hx hb dX6_addRunner_0 rfl (lv_at hl 0 rfl) ?_
  refine rv_getW hx hb ht ui_X6 hown hK hM hR 3 (by decide) (ht _ uw_194) dX6_addRunner_1 ?_
  refine lv_if_lt (tgt := 19) hx hb dX6_addRunner_4 (by decide) (fun c_4 => absurd c_4 (by rw [hn]; exact hn4)) (fun c_4 => ?_)
  refine lv_aload_n hx hb dX6_addRunner_7 rfl (lv_at hl 0 rfl) ?_
  refine rv_getW hx hb ht ui_X6 hown hK hM hR 3 (by decide) (ht _ uw_194) dX6_addRunner_8 ?_
  refine lv_aload_n hx hb dX6_addRunner_11 rfl (lv_at hl 0 rfl) ?_
  refine rv_getra hx hb ht ui_X6 hown hK hM hR (ht _ uw_198) dX6_addRunner_12 ?_
  refine rv_lenR hx hb hK hM hR dX6_addRunner_15 ?_
  refine lv_icmp_lt (tgt := 21) hx hb dX6_addRunner_16 (by decide) (fun c_16 => ?_) (fun c_16 => ?_)
  · rw [hn] at c_16
    have hlt : n < 20 := (nI_ltI (by omega) (by decide)).mp c_16
    refine lv_aload_n hx hb dX6_addRunner_21 rfl (lv_at hl 0 rfl) ?_
    refine rv_getra hx hb ht ui_X6 hown hK hM hR (ht _ uw_198) dX6_addRunner_22 ?_
    refine lv_aload_n hx hb dX6_addRunner_25 rfl (lv_at hl 0 rfl) ?_
    refine rv_getW hx hb ht ui_X6 hown hK hM hR 3 (by decide) (ht _ uw_194) dX6_addRunner_26 ?_
    rw [hn]
    refine rv_aldR hx hb hK hM hR (j := n) hlt dX6_addRunner_29 ?_
    refine lv_astore_n (lv' := [(1, .ref (b + 15 + π n)), (0, .ref (b))]) hx hb dX6_addRunner_30 rfl hl (by decide) rfl (fun ls hl => ?_)
    refine lv_aload_n hx hb dX6_addRunner_31 rfl (lv_at hl 1 rfl) ?_
    refine lv_dup hx hb dX6_addRunner_32 rfl ?_
    refine rv_getW hx hb ht ui_X6 hown hK hM hR 3 (by decide) (ht _ uw_194) dX6_addRunner_33 ?_
    refine lv_iconst (v := 1) hx hb dX6_addRunner_36 (by first | rfl | decide) ?_
    refine lv_iadd hx hb dX6_addRunner_37 ?_
    refine rv_putW hx hb ht ui_X6 hown hK hM hS hR hF 3 (by decide) (ht _ uw_194) dX6_addRunner_38 (fun M H locs hM hR hF hS => ?_)
    refine lv_aload_n hx hb dX6_addRunner_41 rfl (lv_at hl 0 rfl) ?_
    subst hQ
    exact m_aret (r := some (b + 15 + π n)) rfl hx hb hr hlk hK hM hS dX6_addRunner_42 (⟨fun _ => ⟨rfl, RepV.eq hR (by rw [hn]), hF⟩, fun q => absurd hlt q⟩)
  · rw [hn] at c_16
    have hlt : ¬ n < 20 := fun q => c_16 (nI_lt q (by decide))
    refine lv_null hx hb dX6_addRunner_19 ?_
    subst hQ
    exact m_aret (r := none) rfl hx hb hr hlk hK hM hS dX6_addRunner_20 (⟨fun q => absurd q hlt, fun _ => ⟨rfl, hMM⟩⟩)

set_option maxHeartbeats 4000000 in
set_option maxRecDepth 100000 in
/-- over all gauges -/
theorem k_X6_sumOfTold (l : Launch) (g : GG) (A : Nat → Prop) (M0 : MM) (b : Nat) (π : Nat → Nat) (v : VV) (hR : RepV g A M0 b π v)  : Met l yX6_sumOfTold (Uw yX6_sumOfTold cX6_sumOfTold 6 (Option.some ClassFile.FieldType.int)) (rmD 0) (PreM [.ref (b)] g A M0) (PosI (fun r M1 => r = (sumN (fun i => v.2.1 i 8) 6) ∧ M1 = M0) g A) 0 0 A := by
  refine mk_Met (own := RX6) rfl rfl (by decide) (Nat.le_of_ble_eq_true rfl) ?_
  intro p e s m below meth c ls aa Q haa hQ hx hb hr hlk hml hown hts hK hM hS hl hnm
  obtain ⟨M, hMM⟩ : ∃ M, M = M0 := ⟨_, rfl⟩
  rw [← hMM] at hM hR
  have ht : ∀ w ∈ lw_good, w.before _ s = true := fun w h => hts w (List.mem_cons_of_mem _ h)
  have hF : FrV b M0 M := by rw [hMM]; exact FrV.rf
  have hl : lv_has ls 6 [(0, .ref (b))] := hl
  refine lv_iconst (v := nI 0) hx hb dX6_sumOfTold_0 (by first | rfl | decide) ?_
  refine lv_istore_n (lv' := [(1, .int (nI 0)), (0, .ref (b))]) hx hb dX6_sumOfTold_1 rfl hl (by decide) rfl (fun ls hl => ?_)
  refine lv_aload_n hx hb dX6_sumOfTold_2 rfl (lv_at hl 1 rfl) ?_
  refine rv_getga hx hb ht ui_X6 hown hK hM hR (ht _ uw_196) dX6_sumOfTold_3 ?_
  refine lv_astore_n (lv' := [(2, .ref (b + 1)), (1, .int (nI 0)), (0, .ref (b))]) hx hb dX6_sumOfTold_6 rfl hl (by decide) rfl (fun ls hl => ?_)
  refine lv_aload_n hx hb dX6_sumOfTold_7 rfl (lv_at hl 0 rfl) ?_
  refine rv_lenG hx hb hK hM hR dX6_sumOfTold_8 ?_
  refine lv_istore_n (lv' := [(3, .int (nI 6)), (2, .ref (b + 1)), (1, .int (nI 0)), (0, .ref (b))]) hx hb dX6_sumOfTold_9 rfl hl (by decide) rfl (fun ls hl => ?_)
  refine lv_iconst (v := nI 0) hx hb dX6_sumOfTold_10 (by first | rfl | decide) ?_
  refine lv_istore (lv' := [(4, .int (nI 0)), (3, .int (nI 6)), (2, .ref (b + 1)), (1, .int (nI 0)), (0, .ref (b))]) hx hb dX6_sumOfTold_11 hl (by decide) rfl (fun ls hl => ?_)
  have loop_13 : ∀ (z_13 : Nat) (i : Nat) (t : Int32) (H : Heap) (locs : List Loc) (ls : Array Slot), 6 - i < z_13 → i ≤ 6 → t = sumN (fun i => v.2.1 i 8) i → HD g A M H → va_S A s.heap H locs → lv_has ls 6 [(4, .int (nI i)), (3, .int (nI 6)), (2, .ref (b + 1)), (1, .int (t)), (0, .ref (b))] → W p l e (rmD 0) s m aa below meth c H locs 0 0 Q (F0 m 13 ls []) := by
    intro z_13
    induction z_13 with
    | zero => intro i t H locs ls hz hi ht1; exact absurd hz (Nat.not_lt_zero _)
    | succ z_13 ih_13 =>
    intro i t H locs ls hz hi ht1 hM  hS hl
    refine lv_iload hx hb dX6_sumOfTold_13 (lv_at hl 0 rfl) ?_
    refine lv_iload_n hx hb dX6_sumOfTold_15 rfl (lv_at hl 1 rfl) ?_
    refine lv_icmp_ge (tgt := 42) hx hb dX6_sumOfTold_16 (by decide) (fun c_16 => ?_) (fun c_16 => ?_)
    · have hi6 : i = 6 := Nat.le_antisymm hi (nI_le_of (by omega) (by decide) c_16)
      subst hi6
      refine lv_iload_n hx hb dX6_sumOfTold_42 rfl (lv_at hl 3 rfl) ?_
      subst hQ
      exact m_zret hx hb hr rfl hlk hK hM hS dX6_sumOfTold_43 (⟨ht1, hMM⟩)
    · have hi6 : i < 6 := nI_lt_of (by omega) (by decide) c_16
      refine lv_aload_n hx hb dX6_sumOfTold_19 rfl (lv_at hl 2 rfl) ?_
      refine lv_iload hx hb dX6_sumOfTold_20 (lv_at hl 0 rfl) ?_
      refine rv_aldG hx hb hK hM hR (hi6) dX6_sumOfTold_22 ?_
      refine lv_astore (lv' := [(5, .ref (b + 3 + 2 * i)), (4, .int (nI i)), (3, .int (nI 6)), (2, .ref (b + 1)), (1, .int (t)), (0, .ref (b))]) hx hb dX6_sumOfTold_23 hl (by decide) rfl (fun ls hl => ?_)
      refine lv_iload_n hx hb dX6_sumOfTold_25 rfl (lv_at hl 4 rfl) ?_
      refine lv_aload hx hb dX6_sumOfTold_26 (lv_at hl 0 rfl) ?_
      refine rv_getpg hx hb ht ui_X0 hown hK hM hR (hi6) (ht _ uw_138) dX6_sumOfTold_28 ?_
      refine rv_getP hx hb ht ui_X4 hown hK hM hR (hi6) 0 (by decide) (ht _ uw_76) dX6_sumOfTold_31 ?_
      refine lv_iadd hx hb dX6_sumOfTold_34 ?_
      refine lv_istore_n (lv' := [(1, .int ((t) + (v.2.1 i 8))), (5, .ref (b + 3 + 2 * i)), (4, .int (nI i)), (3, .int (nI 6)), (2, .ref (b + 1)), (0, .ref (b))]) hx hb dX6_sumOfTold_35 rfl hl (by decide) rfl (fun ls hl => ?_)
      refine lv_iinc (v := nI (i + 1)) (lv' := [(4, .int (nI (i + 1))), (1, .int ((t) + (v.2.1 i 8))), (5, .ref (b + 3 + 2 * i)), (3, .int (nI 6)), (2, .ref (b + 1)), (0, .ref (b))]) hx hb dX6_sumOfTold_36 hl (k := 2) rfl (nI_1 _) (by decide) rfl (fun ls hl => ?_)
      refine lv_goto (tgt := 13) hx hb dX6_sumOfTold_39 (by decide) ?_
      exact ih_13 (i + 1) ((t) + (v.2.1 i 8)) _ _ _ (by omega) (by omega) (by rw [ht1]; rfl) hM hS (lv_sub hl [0, 3, 4, 1, 5] rfl)
  exact loop_13 _ 0 0 _ _ _ (Nat.lt_succ_self _) (by omega) rfl hM hS (lv_sub hl [0, 1, 2, 3, 4] rfl)

set_option maxHeartbeats 4000000 in
set_option maxRecDepth 100000 in
/-- over all gauges -/
theorem k_X6_gaugesWithGap (l : Launch) (g : GG) (A : Nat → Prop) (M0 : MM) (b : Nat) (π : Nat → Nat) (v : VV) (hR : RepV g A M0 b π v)  : Met l yX6_gaugesWithGap (Uw yX6_gaugesWithGap cX6_gaugesWithGap 6 (Option.some ClassFile.FieldType.int)) (rmD 1) (PreM [.ref (b)] g A M0) (PosI (fun r M1 => r = (gapN v 6) ∧ M1 = M0) g A) 0 0 A := by
  refine mk_Met (own := RX6) rfl rfl (by decide) (Nat.le_of_ble_eq_true rfl) ?_
  intro p e s m below meth c ls aa Q haa hQ hx hb hr hlk hml hown hts hK hM hS hl hnm
  obtain ⟨M, hMM⟩ : ∃ M, M = M0 := ⟨_, rfl⟩
  rw [← hMM] at hM hR
  have ht : ∀ w ∈ lw_good, w.before _ s = true := fun w h => hts w (List.mem_cons_of_mem _ h)
  have hF : FrV b M0 M := by rw [hMM]; exact FrV.rf
  have hl : lv_has ls 6 [(0, .ref (b))] := hl
  refine lv_iconst (v := nI 0) hx hb dX6_gaugesWithGap_0 (by first | rfl | decide) ?_
  refine lv_istore_n (lv' := [(1, .int (nI 0)), (0, .ref (b))]) hx hb dX6_gaugesWithGap_1 rfl hl (by decide) rfl (fun ls hl => ?_)
  refine lv_aload_n hx hb dX6_gaugesWithGap_2 rfl (lv_at hl 1 rfl) ?_
  refine rv_getga hx hb ht ui_X6 hown hK hM hR (ht _ uw_196) dX6_gaugesWithGap_3 ?_
  refine lv_astore_n (lv' := [(2, .ref (b + 1)), (1, .int (nI 0)), (0, .ref (b))]) hx hb dX6_gaugesWithGap_6 rfl hl (by decide) rfl (fun ls hl => ?_)
  refine lv_aload_n hx hb dX6_gaugesWithGap_7 rfl (lv_at hl 0 rfl) ?_
  refine rv_lenG hx hb hK hM hR dX6_gaugesWithGap_8 ?_
  refine lv_istore_n (lv' := [(3, .int (nI 6)), (2, .ref (b + 1)), (1, .int (nI 0)), (0, .ref (b))]) hx hb dX6_gaugesWithGap_9 rfl hl (by decide) rfl (fun ls hl => ?_)
  refine lv_iconst (v := nI 0) hx hb dX6_gaugesWithGap_10 (by first | rfl | decide) ?_
  refine lv_istore (lv' := [(4, .int (nI 0)), (3, .int (nI 6)), (2, .ref (b + 1)), (1, .int (nI 0)), (0, .ref (b))]) hx hb dX6_gaugesWithGap_11 hl (by decide) rfl (fun ls hl => ?_)
  have loop_13 : ∀ (z_13 : Nat) (i : Nat) (t : Int32) (H : Heap) (locs : List Loc) (ls : Array Slot), 6 - i < z_13 → i ≤ 6 → t = gapN v i → HD g A M H → va_S A s.heap H locs → lv_has ls 6 [(4, .int (nI i)), (3, .int (nI 6)), (2, .ref (b + 1)), (1, .int (t)), (0, .ref (b))] → W p l e (rmD 1) s m aa below meth c H locs 0 0 Q (F0 m 13 ls []) := by
    intro z_13
    induction z_13 with
    | zero => intro i t H locs ls hz hi ht1; exact absurd hz (Nat.not_lt_zero _)
    | succ z_13 ih_13 =>
    intro i t H locs ls hz hi ht1 hM  hS hl
    refine lv_iload hx hb dX6_gaugesWithGap_13 (lv_at hl 0 rfl) ?_
    refine lv_iload_n hx hb dX6_gaugesWithGap_15 rfl (lv_at hl 1 rfl) ?_
    refine lv_icmp_ge (tgt := 42) hx hb dX6_gaugesWithGap_16 (by decide) (fun c_16 => ?_) (fun c_16 => ?_)
    · have hi6 : i = 6 := Nat.le_antisymm hi (nI_le_of (by omega) (by decide) c_16)
      subst hi6
      refine lv_iload_n hx hb dX6_gaugesWithGap_42 rfl (lv_at hl 3 rfl) ?_
      subst hQ
      exact m_zret hx hb hr rfl hlk hK hM hS dX6_gaugesWithGap_43 (⟨ht1, hMM⟩)
    · have hi6 : i < 6 := nI_lt_of (by omega) (by decide) c_16
      refine lv_aload_n hx hb dX6_gaugesWithGap_19 rfl (lv_at hl 2 rfl) ?_
      refine lv_iload hx hb dX6_gaugesWithGap_20 (lv_at hl 0 rfl) ?_
      refine rv_aldG hx hb hK hM hR (hi6) dX6_gaugesWithGap_22 ?_
      refine lv_astore (lv' := [(5, .ref (b + 3 + 2 * i)), (4, .int (nI i)), (3, .int (nI 6)), (2, .ref (b + 1)), (1, .int (t)), (0, .ref (b))]) hx hb dX6_gaugesWithGap_23 hl (by decide) rfl (fun ls hl => ?_)
      refine lv_aload hx hb dX6_gaugesWithGap_25 (lv_at hl 0 rfl) ?_
      refine m_callRI (val := v.2.1 i 5 - v.2.1 i 8) (As := []) (rest := []) ⟨hx, hb, hml, hown, ht⟩ (k_X0_gap l g A M b π v i hR hi6) (cwV 0 ht (gU uw_519 uw_495 uw_496 uw_36 uw_497) rfl rfl rfl (by decide +kernel) ⟨by decide, by decide⟩) hK hM hS (m_recv hK hM (hR.AG hi6) (hR.G hi6) rfl) rfl hl.1 rfl (Nat.le_of_ble_eq_true rfl) dX6_gaugesWithGap_27 ⟨by decide, by decide⟩ (fun H locs hM hS => ?_)
      refine lv_if_eq (tgt := 36) hx hb dX6_gaugesWithGap_30 (by decide) (fun c_30 => ?_) (fun c_30 => ?_)
      · refine lv_iinc (v := nI (i + 1)) (lv' := [(4, .int (nI (i + 1))), (5, .ref (b + 3 + 2 * i)), (3, .int (nI 6)), (2, .ref (b + 1)), (1, .int (t)), (0, .ref (b))]) hx hb dX6_gaugesWithGap_36 hl (k := 1) rfl (nI_1 _) (by decide) rfl (fun ls hl => ?_)
        refine lv_goto (tgt := 13) hx hb dX6_gaugesWithGap_39 (by decide) ?_
        exact ih_13 (i + 1) t _ _ _ (by omega) (by omega) (by rw [ht1]; exact (if_pos c_30).symm) hM hS (lv_sub hl [0, 2, 3, 4, 5] rfl)
      · refine lv_iinc (v := (t) + (1)) (lv' := [(1, .int ((t) + (1))), (5, .ref (b + 3 + 2 * i)), (4, .int (nI i)), (3, .int (nI 6)), (2, .ref (b + 1)), (0, .ref (b))]) hx hb dX6_gaugesWithGap_33 hl (k := 4) rfl (rfl) (by decide) rfl (fun ls hl => ?_)
        refine lv_iinc (v := nI (i + 1)) (lv' := [(4, .int (nI (i + 1))), (1, .int ((t) + (1))), (5, .ref (b + 3 + 2 * i)), (3, .int (nI 6)), (2, .ref (b + 1)), (0, .ref (b))]) hx hb dX6_gaugesWithGap_36 hl (k := 2) rfl (nI_1 _) (by decide) rfl (fun ls hl => ?_)
        refine lv_goto (tgt := 13) hx hb dX6_gaugesWithGap_39 (by decide) ?_
        exact ih_13 (i + 1) ((t) + (1)) _ _ _ (by omega) (by omega) (by rw [ht1]; exact (if_neg c_30).symm) hM hS (lv_sub hl [0, 3, 4, 1, 5] rfl)
  exact loop_13 _ 0 0 _ _ _ (Nat.lt_succ_self _) (by omega) rfl hM hS (lv_sub hl [0, 1, 2, 3, 4] rfl)

set_option maxHeartbeats 4000000 in
set_option maxRecDepth 100000 in
/-- a fact of a gauge -/
theorem k_X6_factOf (l : Launch) (g : GG) (A : Nat → Prop) (M0 : MM) (b : Nat) (π : Nat → Nat) (v : VV) (i : Nat) (w : Int32) (hR : RepV g A M0 b π v) (hi : i < 6) : Met l yX6_factOf (Uw yX6_factOf cX6_factOf 3 (Option.some ClassFile.FieldType.int)) (rmD 1) (PreM [.ref (b), .ref (b + 3 + 2 * i), .int (w)] g A M0) (PosI (fun r M1 => r = (facC v i w) ∧ M1 = M0) g A) 0 0 A := by
  refine mk_Met (own := RX6) rfl rfl (by decide) (Nat.le_of_ble_eq_true rfl) ?_
  intro p e s m below meth c ls aa Q haa hQ hx hb hr hlk hml hown hts hK hM hS hl hnm
  obtain ⟨M, hMM⟩ : ∃ M, M = M0 := ⟨_, rfl⟩
  rw [← hMM] at hM hR
  have ht : ∀ w ∈ lw_good, w.before _ s = true := fun w h => hts w (List.mem_cons_of_mem _ h)
  have hF : FrV b M0 M := by rw [hMM]; exact FrV.rf
  have hl : lv_has ls 3 [(0, .ref (b)), (1, .ref (b + 3 + 2 * i)), (2, .int (w))] := hl
  refine lv_iload_n hx hb dX6_factOf_0 rfl (lv_at hl 2 rfl) ?_
  by_cases s_1 : (w).toInt < 0 ∨ 8 < (w).toInt
  · refine lv_tableOut (tgt := 101) hx hb dX6_factOf_1 s_1 (by decide) ?_
    refine lv_ldc (v := (-1000002)) hx hb hown (ht _ uw_488) dX6_factOf_101 ?_
    subst hQ
    exact m_zret hx hb hr rfl hlk hK hM hS dX6_factOf_103 (⟨by rw [facC_out s_1], hMM⟩)
  by_cases s_1_0 : (w) = 0
  · refine lv_tableIn (tgt := 52) (off := 51) hx hb dX6_factOf_1 (by rw [s_1_0]; decide) (by rw [s_1_0]; decide) (by rw [s_1_0]; rfl) (by decide) ?_
    refine lv_aload_n hx hb dX6_factOf_52 rfl (lv_at hl 1 rfl) ?_
    refine rv_getG hx hb ht ui_X0 hown hK hM hR hi 0 (by decide) (ht _ uw_117) dX6_factOf_53 ?_
    subst hQ
    exact m_zret hx hb hr rfl hlk hK hM hS dX6_factOf_56 (⟨by rw [s_1_0]; rfl, hMM⟩)
  by_cases s_1_1 : (w) = 1
  · refine lv_tableIn (tgt := 57) (off := 56) hx hb dX6_factOf_1 (by rw [s_1_1]; decide) (by rw [s_1_1]; decide) (by rw [s_1_1]; rfl) (by decide) ?_
    refine lv_aload_n hx hb dX6_factOf_57 rfl (lv_at hl 1 rfl) ?_
    refine rv_getG hx hb ht ui_X0 hown hK hM hR hi 1 (by decide) (ht _ uw_120) dX6_factOf_58 ?_
    subst hQ
    exact m_zret hx hb hr rfl hlk hK hM hS dX6_factOf_61 (⟨by rw [s_1_1]; rfl, hMM⟩)
  by_cases s_1_2 : (w) = 2
  · refine lv_tableIn (tgt := 62) (off := 61) hx hb dX6_factOf_1 (by rw [s_1_2]; decide) (by rw [s_1_2]; decide) (by rw [s_1_2]; rfl) (by decide) ?_
    refine lv_aload_n hx hb dX6_factOf_62 rfl (lv_at hl 1 rfl) ?_
    refine rv_getG hx hb ht ui_X0 hown hK hM hR hi 2 (by decide) (ht _ uw_123) dX6_factOf_63 ?_
    subst hQ
    exact m_zret hx hb hr rfl hlk hK hM hS dX6_factOf_66 (⟨by rw [s_1_2]; rfl, hMM⟩)
  by_cases s_1_3 : (w) = 3
  · refine lv_tableIn (tgt := 67) (off := 66) hx hb dX6_factOf_1 (by rw [s_1_3]; decide) (by rw [s_1_3]; decide) (by rw [s_1_3]; rfl) (by decide) ?_
    refine lv_aload_n hx hb dX6_factOf_67 rfl (lv_at hl 1 rfl) ?_
    refine rv_getG hx hb ht ui_X0 hown hK hM hR hi 3 (by decide) (ht _ uw_126) dX6_factOf_68 ?_
    subst hQ
    exact m_zret hx hb hr rfl hlk hK hM hS dX6_factOf_71 (⟨by rw [s_1_3]; rfl, hMM⟩)
  by_cases s_1_4 : (w) = 4
  · refine lv_tableIn (tgt := 72) (off := 71) hx hb dX6_factOf_1 (by rw [s_1_4]; decide) (by rw [s_1_4]; decide) (by rw [s_1_4]; rfl) (by decide) ?_
    refine lv_aload_n hx hb dX6_factOf_72 rfl (lv_at hl 1 rfl) ?_
    refine rv_getG hx hb ht ui_X0 hown hK hM hR hi 4 (by decide) (ht _ uw_129) dX6_factOf_73 ?_
    subst hQ
    exact m_zret hx hb hr rfl hlk hK hM hS dX6_factOf_76 (⟨by rw [s_1_4]; rfl, hMM⟩)
  by_cases s_1_5 : (w) = 5
  · refine lv_tableIn (tgt := 77) (off := 76) hx hb dX6_factOf_1 (by rw [s_1_5]; decide) (by rw [s_1_5]; decide) (by rw [s_1_5]; rfl) (by decide) ?_
    refine lv_aload_n hx hb dX6_factOf_77 rfl (lv_at hl 1 rfl) ?_
    refine rv_getG hx hb ht ui_X0 hown hK hM hR hi 5 (by decide) (ht _ uw_131) dX6_factOf_78 ?_
    subst hQ
    exact m_zret hx hb hr rfl hlk hK hM hS dX6_factOf_81 (⟨by rw [s_1_5]; rfl, hMM⟩)
  by_cases s_1_6 : (w) = 6
  · refine lv_tableIn (tgt := 82) (off := 81) hx hb dX6_factOf_1 (by rw [s_1_6]; decide) (by rw [s_1_6]; decide) (by rw [s_1_6]; rfl) (by decide) ?_
    refine lv_aload_n hx hb dX6_factOf_82 rfl (lv_at hl 0 rfl) ?_
    refine lv_aload_n hx hb dX6_factOf_83 rfl (lv_at hl 1 rfl) ?_
    refine rv_getG hx hb ht ui_X0 hown hK hM hR hi 5 (by decide) (ht _ uw_131) dX6_factOf_84 ?_
    refine m_callRI (val := whC v (v.2.1 i 5)) (As := [.int (v.2.1 i 5)]) (rest := []) ⟨hx, hb, hml, hown, ht⟩ (k_X6_wheelAt l g A M b π v (v.2.1 i 5) hR) (cwV 1 ht (gU uw_376 uw_377 uw_378 uw_35 uw_379) rfl rfl rfl (by decide +kernel) ⟨by decide, by decide⟩) hK hM hS (m_recv hK hM hR.AW hR.W rfl) rfl hl.1 rfl (Nat.le_of_ble_eq_true rfl) dX6_factOf_87 ⟨by decide, by decide⟩ (fun H locs hM hS => ?_)
    subst hQ
    exact m_zret hx hb hr rfl hlk hK hM hS dX6_factOf_90 (⟨by rw [s_1_6]; rfl, hMM⟩)
  by_cases s_1_7 : (w) = 7
  · refine lv_tableIn (tgt := 91) (off := 90) hx hb dX6_factOf_1 (by rw [s_1_7]; decide) (by rw [s_1_7]; decide) (by rw [s_1_7]; rfl) (by decide) ?_
    refine lv_aload_n hx hb dX6_factOf_91 rfl (lv_at hl 1 rfl) ?_
    refine rv_getG hx hb ht ui_X0 hown hK hM hR hi 6 (by decide) (ht _ uw_133) dX6_factOf_92 ?_
    subst hQ
    exact m_zret hx hb hr rfl hlk hK hM hS dX6_factOf_95 (⟨by rw [s_1_7]; rfl, hMM⟩)
  by_cases s_1_8 : (w) = 8
  · refine lv_tableIn (tgt := 96) (off := 95) hx hb dX6_factOf_1 (by rw [s_1_8]; decide) (by rw [s_1_8]; decide) (by rw [s_1_8]; rfl) (by decide) ?_
    refine lv_aload_n hx hb dX6_factOf_96 rfl (lv_at hl 1 rfl) ?_
    refine rv_getG hx hb ht ui_X0 hown hK hM hR hi 7 (by decide) (ht _ uw_135) dX6_factOf_97 ?_
    subst hQ
    exact m_zret hx hb hr rfl hlk hK hM hS dX6_factOf_100 (⟨by rw [s_1_8]; rfl, hMM⟩)
  exfalso
  have n_0 := lv_neT (a := 0) s_1_0 (by decide)
  have n_1 := lv_neT (a := 1) s_1_1 (by decide)
  have n_2 := lv_neT (a := 2) s_1_2 (by decide)
  have n_3 := lv_neT (a := 3) s_1_3 (by decide)
  have n_4 := lv_neT (a := 4) s_1_4 (by decide)
  have n_5 := lv_neT (a := 5) s_1_5 (by decide)
  have n_6 := lv_neT (a := 6) s_1_6 (by decide)
  have n_7 := lv_neT (a := 7) s_1_7 (by decide)
  have n_8 := lv_neT (a := 8) s_1_8 (by decide)
  omega

set_option maxHeartbeats 4000000 in
set_option maxRecDepth 100000 in
/-- over all gauges -/
theorem k_X6_sumOf (l : Launch) (g : GG) (A : Nat → Prop) (M0 : MM) (b : Nat) (π : Nat → Nat) (v : VV) (w : Int32) (hR : RepV g A M0 b π v)  : Met l yX6_sumOf (Uw yX6_sumOf cX6_sumOf 7 (Option.some ClassFile.FieldType.int)) (rmD 2) (PreM [.ref (b), .int (w)] g A M0) (PosI (fun r M1 => r = (sumN (fun i => facC v i w) 6) ∧ M1 = M0) g A) 0 0 A := by
  refine mk_Met (own := RX6) rfl rfl (by decide) (Nat.le_of_ble_eq_true rfl) ?_
  intro p e s m below meth c ls aa Q haa hQ hx hb hr hlk hml hown hts hK hM hS hl hnm
  obtain ⟨M, hMM⟩ : ∃ M, M = M0 := ⟨_, rfl⟩
  rw [← hMM] at hM hR
  have ht : ∀ w ∈ lw_good, w.before _ s = true := fun w h => hts w (List.mem_cons_of_mem _ h)
  have hF : FrV b M0 M := by rw [hMM]; exact FrV.rf
  have hl : lv_has ls 7 [(0, .ref (b)), (1, .int (w))] := hl
  refine lv_iconst (v := nI 0) hx hb dX6_sumOf_0 (by first | rfl | decide) ?_
  refine lv_istore_n (lv' := [(2, .int (nI 0)), (0, .ref (b)), (1, .int (w))]) hx hb dX6_sumOf_1 rfl hl (by decide) rfl (fun ls hl => ?_)
  refine lv_aload_n hx hb dX6_sumOf_2 rfl (lv_at hl 1 rfl) ?_
  refine rv_getga hx hb ht ui_X6 hown hK hM hR (ht _ uw_196) dX6_sumOf_3 ?_
  refine lv_astore_n (lv' := [(3, .ref (b + 1)), (2, .int (nI 0)), (0, .ref (b)), (1, .int (w))]) hx hb dX6_sumOf_6 rfl hl (by decide) rfl (fun ls hl => ?_)
  refine lv_aload_n hx hb dX6_sumOf_7 rfl (lv_at hl 0 rfl) ?_
  refine rv_lenG hx hb hK hM hR dX6_sumOf_8 ?_
  refine lv_istore (lv' := [(4, .int (nI 6)), (3, .ref (b + 1)), (2, .int (nI 0)), (0, .ref (b)), (1, .int (w))]) hx hb dX6_sumOf_9 hl (by decide) rfl (fun ls hl => ?_)
  refine lv_iconst (v := nI 0) hx hb dX6_sumOf_11 (by first | rfl | decide) ?_
  refine lv_istore (lv' := [(5, .int (nI 0)), (4, .int (nI 6)), (3, .ref (b + 1)), (2, .int (nI 0)), (0, .ref (b)), (1, .int (w))]) hx hb dX6_sumOf_12 hl (by decide) rfl (fun ls hl => ?_)
  have loop_14 : ∀ (z_14 : Nat) (i : Nat) (t : Int32) (H : Heap) (locs : List Loc) (ls : Array Slot), 6 - i < z_14 → i ≤ 6 → t = sumN (fun i => facC v i w) i → HD g A M H → va_S A s.heap H locs → lv_has ls 7 [(5, .int (nI i)), (4, .int (nI 6)), (3, .ref (b + 1)), (2, .int (t)), (0, .ref (b)), (1, .int (w))] → W p l e (rmD 2) s m aa below meth c H locs 0 0 Q (F0 m 14 ls []) := by
    intro z_14
    induction z_14 with
    | zero => intro i t H locs ls hz hi ht1; exact absurd hz (Nat.not_lt_zero _)
    | succ z_14 ih_14 =>
    intro i t H locs ls hz hi ht1 hM  hS hl
    refine lv_iload hx hb dX6_sumOf_14 (lv_at hl 0 rfl) ?_
    refine lv_iload hx hb dX6_sumOf_16 (lv_at hl 1 rfl) ?_
    refine lv_icmp_ge (tgt := 43) hx hb dX6_sumOf_18 (by decide) (fun c_18 => ?_) (fun c_18 => ?_)
    · have hi6 : i = 6 := Nat.le_antisymm hi (nI_le_of (by omega) (by decide) c_18)
      subst hi6
      refine lv_iload_n hx hb dX6_sumOf_43 rfl (lv_at hl 3 rfl) ?_
      subst hQ
      exact m_zret hx hb hr rfl hlk hK hM hS dX6_sumOf_44 (⟨ht1, hMM⟩)
    · have hi6 : i < 6 := nI_lt_of (by omega) (by decide) c_18
      refine lv_aload_n hx hb dX6_sumOf_21 rfl (lv_at hl 2 rfl) ?_
      refine lv_iload hx hb dX6_sumOf_22 (lv_at hl 0 rfl) ?_
      refine rv_aldG hx hb hK hM hR (hi6) dX6_sumOf_24 ?_
      refine lv_astore (lv' := [(6, .ref (b + 3 + 2 * i)), (5, .int (nI i)), (4, .int (nI 6)), (3, .ref (b + 1)), (2, .int (t)), (0, .ref (b)), (1, .int (w))]) hx hb dX6_sumOf_25 hl (by decide) rfl (fun ls hl => ?_)
      refine lv_iload_n hx hb dX6_sumOf_27 rfl (lv_at hl 4 rfl) ?_
      refine lv_aload_n hx hb dX6_sumOf_28 rfl (lv_at hl 5 rfl) ?_
      refine lv_aload hx hb dX6_sumOf_29 (lv_at hl 0 rfl) ?_
      refine lv_iload_n hx hb dX6_sumOf_31 rfl (lv_at hl 6 rfl) ?_
      refine m_callRI (val := facC v i w) (As := [.ref (b + 3 + 2 * i), .int (w)]) (rest := [.int (t)]) ⟨hx, hb, hml, hown, ht⟩ (k_X6_factOf l g A M b π v i w hR hi6) (cwV 2 ht (gU uw_510 uw_485 uw_486 uw_35 uw_487) rfl rfl rfl (by decide +kernel) ⟨by decide, by decide⟩) hK hM hS (m_recv hK hM hR.AW hR.W rfl) rfl hl.1 rfl (Nat.le_of_ble_eq_true rfl) dX6_sumOf_32 ⟨by decide, by decide⟩ (fun H locs hM hS => ?_)
      refine lv_iadd hx hb dX6_sumOf_35 ?_
      refine lv_istore_n (lv' := [(2, .int ((t) + (facC v i w))), (6, .ref (b + 3 + 2 * i)), (5, .int (nI i)), (4, .int (nI 6)), (3, .ref (b + 1)), (0, .ref (b)), (1, .int (w))]) hx hb dX6_sumOf_36 rfl hl (by decide) rfl (fun ls hl => ?_)
      refine lv_iinc (v := nI (i + 1)) (lv' := [(5, .int (nI (i + 1))), (2, .int ((t) + (facC v i w))), (6, .ref (b + 3 + 2 * i)), (4, .int (nI 6)), (3, .ref (b + 1)), (0, .ref (b)), (1, .int (w))]) hx hb dX6_sumOf_37 hl (k := 2) rfl (nI_1 _) (by decide) rfl (fun ls hl => ?_)
      refine lv_goto (tgt := 14) hx hb dX6_sumOf_40 (by decide) ?_
      exact ih_14 (i + 1) ((t) + (facC v i w)) _ _ _ (by omega) (by omega) (by rw [ht1]; rfl) hM hS (lv_sub hl [0, 3, 4, 1, 5, 6] rfl)
  exact loop_14 _ 0 0 _ _ _ (Nat.lt_succ_self _) (by omega) rfl hM hS (lv_sub hl [0, 1, 2, 3, 4, 5] rfl)

set_option maxHeartbeats 4000000 in
set_option maxRecDepth 100000 in
/-- the hours until the last one comes -/
theorem k_X6_longestWay (l : Launch) (g : GG) (A : Nat → Prop) (M0 : MM) (b : Nat) (π : Nat → Nat) (v : VV) (hR : RepV g A M0 b π v) (n : Nat) (hn : v.1 3 = nI n) (hn20 : n ≤ 20)  : Met l yX6_longestWay (Uw yX6_longestWay cX6_longestWay 3 (Option.some ClassFile.FieldType.int)) (rmD 1) (PreM [.ref (b)] g A M0) (PosI (fun r M1 => r = (lonC v n) ∧ M1 = M0) g A) 0 0 A := by
  refine mk_Met (own := RX6) rfl rfl (by decide) (Nat.le_of_ble_eq_true rfl) ?_
  intro p e s m below meth c ls aa Q haa hQ hx hb hr hlk hml hown hts hK hM hS hl hnm
  obtain ⟨M, hMM⟩ : ∃ M, M = M0 := ⟨_, rfl⟩
  rw [← hMM] at hM hR
  have ht : ∀ w ∈ lw_good, w.before _ s = true := fun w h => hts w (List.mem_cons_of_mem _ h)
  have hF : FrV b M0 M := by rw [hMM]; exact FrV.rf
  have hl : lv_has ls 3 [(0, .ref (b))] := hl
  refine lv_iconst (v := nI 0) hx hb dX6_longestWay_0 (by first | rfl | decide) ?_
  refine lv_istore_n (lv' := [(1, .int (nI 0)), (0, .ref (b))]) hx hb dX6_longestWay_1 rfl hl (by decide) rfl (fun ls hl => ?_)
  refine lv_iconst (v := nI 0) hx hb dX6_longestWay_2 (by first | rfl | decide) ?_
  refine lv_istore_n (lv' := [(2, .int (nI 0)), (1, .int (nI 0)), (0, .ref (b))]) hx hb dX6_longestWay_3 rfl hl (by decide) rfl (fun ls hl => ?_)
  have loop_4 : ∀ (z_4 : Nat) (j : Nat) (t : Int32) (H : Heap) (locs : List Loc) (ls : Array Slot), n - j < z_4 → j ≤ n → t = lonC v j → HD g A M H → va_S A s.heap H locs → lv_has ls 3 [(2, .int (nI j)), (1, .int (t)), (0, .ref (b))] → W p l e (rmD 1) s m aa below meth c H locs 0 0 Q (F0 m 4 ls []) := by
    intro z_4
    induction z_4 with
    | zero => intro j t H locs ls hz hj ht1; exact absurd hz (Nat.not_lt_zero _)
    | succ z_4 ih_4 =>
    intro j t H locs ls hz hj ht1 hM  hS hl
    refine lv_iload_n hx hb dX6_longestWay_4 rfl (lv_at hl 0 rfl) ?_
    refine lv_aload_n hx hb dX6_longestWay_5 rfl (lv_at hl 2 rfl) ?_
    refine rv_getW hx hb ht ui_X6 hown hK hM hR 3 (by decide) (ht _ uw_194) dX6_longestWay_6 ?_
    refine lv_icmp_ge (tgt := 41) hx hb dX6_longestWay_9 (by decide) (fun c_9 => ?_) (fun c_9 => ?_)
    · rw [hn] at c_9
      have hkn : j = n := Nat.le_antisymm hj (nI_le_of (by omega) (by omega) c_9)
      subst hkn
      refine lv_iload_n hx hb dX6_longestWay_41 rfl (lv_at hl 1 rfl) ?_
      subst hQ
      exact m_zret hx hb hr rfl hlk hK hM hS dX6_longestWay_42 (⟨ht1, hMM⟩)
    · rw [hn] at c_9
      have hkn : j < n := nI_lt_of (by omega) (by omega) c_9
      refine lv_iload_n hx hb dX6_longestWay_12 rfl (lv_at hl 0 rfl) ?_
      refine lv_aload_n hx hb dX6_longestWay_13 rfl (lv_at hl 2 rfl) ?_
      refine rv_getra hx hb ht ui_X6 hown hK hM hR (ht _ uw_198) dX6_longestWay_14 ?_
      refine rv_lenR hx hb hK hM hR dX6_longestWay_17 ?_
      refine lv_icmp_ge (tgt := 41) hx hb dX6_longestWay_18 (by decide) (fun c_18 => absurd c_18 (nI_ge (show j < 20 by omega) (by decide))) (fun c_18 => ?_)
      refine lv_iload_n hx hb dX6_longestWay_21 rfl (lv_at hl 1 rfl) ?_
      refine lv_aload_n hx hb dX6_longestWay_22 rfl (lv_at hl 2 rfl) ?_
      refine rv_getra hx hb ht ui_X6 hown hK hM hR (ht _ uw_198) dX6_longestWay_23 ?_
      refine lv_iload_n hx hb dX6_longestWay_26 rfl (lv_at hl 0 rfl) ?_
      refine rv_aldR hx hb hK hM hR (show j < 20 by omega) dX6_longestWay_27 ?_
      refine rv_getR hx hb ht ui_X5 hown hK hM hR (show j < 20 by omega) 4 (by decide) (ht _ uw_175) dX6_longestWay_28 ?_
      refine va_mmax hx hb (hml.trans hl.1.symm) hown (ht _ uw_542) (ht _ uw_543) (ht _ uw_43) (ht _ uw_544) (by decide) (by decide) (by decide) (by decide) dX6_longestWay_31 ?_
      refine lv_istore_n (lv' := [(1, .int (if t < v.2.2 j 4 then v.2.2 j 4 else t)), (2, .int (nI j)), (0, .ref (b))]) hx hb dX6_longestWay_34 rfl hl (by decide) rfl (fun ls hl => ?_)
      refine lv_iinc (v := nI (j + 1)) (lv' := [(2, .int (nI (j + 1))), (1, .int (if t < v.2.2 j 4 then v.2.2 j 4 else t)), (0, .ref (b))]) hx hb dX6_longestWay_35 hl (k := 1) rfl (nI_1 _) (by decide) rfl (fun ls hl => ?_)
      refine lv_goto (tgt := 4) hx hb dX6_longestWay_38 (by decide) ?_
      exact ih_4 (j + 1) (if t < v.2.2 j 4 then v.2.2 j 4 else t) _ _ _ (by omega) (by omega) (by rw [ht1]; rfl) hM hS (lv_sub hl [0, 1, 2] rfl)
  exact loop_4 _ 0 0 _ _ _ (Nat.lt_succ_self _) (Nat.zero_le _) rfl hM hS (lv_sub hl [0, 1, 2] rfl)

