set_option maxHeartbeats 4000000 in
set_option maxRecDepth 100000 in
/-- the gap of a gauge -/
theorem k_X0_gap (l : Launch) (g : GG) (A : Nat → Prop) (M0 : MM) (b : Nat) (π : Nat → Nat) (v : VV) (i : Nat) (hR : RepV g A M0 b π v) (hi : i < 6) : Met l yX0_gap (Uw yX0_gap cX0_gap 1 (Option.some ClassFile.FieldType.int)) (rmD 0) (PreM [.ref (b + 3 + 2 * i)] g A M0) (PosI (fun r M1 => r = (v.2.1 i 5 - v.2.1 i 8) ∧ M1 = M0) g A) 0 0 A := by
  refine mk_Met (own := RX0) rfl rfl (by decide) (Nat.le_of_ble_eq_true rfl) ?_
  intro p e s m below meth c ls aa Q haa hQ hx hb hr hlk hml hown hts hK hM hS hl hnm
  obtain ⟨M, hMM⟩ : ∃ M, M = M0 := ⟨_, rfl⟩
  rw [← hMM] at hM hR
  have ht : ∀ w ∈ lw_good, w.before _ s = true := fun w h => hts w (List.mem_cons_of_mem _ h)
  have hF : FrV b M0 M := by rw [hMM]; exact FrV.rf
  have hl : lv_has ls 1 [(0, .ref (b + 3 + 2 * i))] := hl
  refine lv_aload_n hx hb dX0_gap_0 rfl (lv_at hl 0 rfl) ?_
  refine rv_getG hx hb ht ui_X0 hown hK hM hR hi 5 (by decide) (ht _ uw_130) dX0_gap_1 ?_
  refine lv_aload_n hx hb dX0_gap_4 rfl (lv_at hl 0 rfl) ?_
  refine rv_getpg hx hb ht ui_X0 hown hK hM hR hi (ht _ uw_136) dX0_gap_5 ?_
  refine rv_getP hx hb ht ui_X4 hown hK hM hR hi 0 (by decide) (ht _ uw_74) dX0_gap_8 ?_
  refine lv_isub hx hb dX0_gap_11 ?_
  subst hQ
  exact m_zret hx hb hr rfl hlk hK hM hS dX0_gap_12 (⟨rfl, hMM⟩)

set_option maxHeartbeats 4000000 in
set_option maxRecDepth 100000 in
/-- what it went on since the latest telling -/
theorem k_X0_untold (l : Launch) (g : GG) (A : Nat → Prop) (M0 : MM) (b : Nat) (π : Nat → Nat) (v : VV) (i : Nat) (hR : RepV g A M0 b π v) (hi : i < 6) : Met l yX0_untold (Uw yX0_untold cX0_untold 1 (Option.some ClassFile.FieldType.int)) (rmD 0) (PreM [.ref (b + 3 + 2 * i)] g A M0) (PosI (fun r M1 => r = (v.2.1 i 5 - v.2.1 i 10) ∧ M1 = M0) g A) 0 0 A := by
  refine mk_Met (own := RX0) rfl rfl (by decide) (Nat.le_of_ble_eq_true rfl) ?_
  intro p e s m below meth c ls aa Q haa hQ hx hb hr hlk hml hown hts hK hM hS hl hnm
  obtain ⟨M, hMM⟩ : ∃ M, M = M0 := ⟨_, rfl⟩
  rw [← hMM] at hM hR
  have ht : ∀ w ∈ lw_good, w.before _ s = true := fun w h => hts w (List.mem_cons_of_mem _ h)
  have hF : FrV b M0 M := by rw [hMM]; exact FrV.rf
  have hl : lv_has ls 1 [(0, .ref (b + 3 + 2 * i))] := hl
  refine lv_aload_n hx hb dX0_untold_0 rfl (lv_at hl 0 rfl) ?_
  refine rv_getG hx hb ht ui_X0 hown hK hM hR hi 5 (by decide) (ht _ uw_130) dX0_untold_1 ?_
  refine lv_aload_n hx hb dX0_untold_4 rfl (lv_at hl 0 rfl) ?_
  refine rv_getpg hx hb ht ui_X0 hown hK hM hR hi (ht _ uw_136) dX0_untold_5 ?_
  refine rv_getP hx hb ht ui_X4 hown hK hM hR hi 2 (by decide) (ht _ uw_81) dX0_untold_8 ?_
  refine lv_isub hx hb dX0_untold_11 ?_
  subst hQ
  exact m_zret hx hb hr rfl hlk hK hM hS dX0_untold_12 (⟨rfl, hMM⟩)

set_option maxHeartbeats 4000000 in
set_option maxRecDepth 100000 in
/-- an hour of rain for a gauge -/
theorem k_X0_catchRain (l : Launch) (g : GG) (A : Nat → Prop) (M0 : MM) (b : Nat) (π : Nat → Nat) (v : VV) (i : Nat) (am : Int32) (hR : RepV g A M0 b π v) (hi : i < 6) : Met l yX0_catchRain (Uw yX0_catchRain cX0_catchRain 4 (Option.some ClassFile.FieldType.int)) (rmD 0) (PreM [.ref (b + 3 + 2 * i), .int (am)] g A M0) (PosI (fun r M1 => r = tipC v i am ∧ RepV g A M1 b π (catC v i am) ∧ FrV b M0 M1) g A) 0 0 A := by
  refine mk_Met (own := RX0) rfl rfl (by decide) (Nat.le_of_ble_eq_true rfl) ?_
  intro p e s m below meth c ls aa Q haa hQ hx hb hr hlk hml hown hts hK hM hS hl hnm
  obtain ⟨M, hMM⟩ : ∃ M, M = M0 := ⟨_, rfl⟩
  rw [← hMM] at hM hR
  have ht : ∀ w ∈ lw_good, w.before _ s = true := fun w h => hts w (List.mem_cons_of_mem _ h)
  have hF : FrV b M0 M := by rw [hMM]; exact FrV.rf
  have hl : lv_has ls 4 [(0, .ref (b + 3 + 2 * i)), (1, .int (am))] := hl
  refine lv_iload_n hx hb dX0_catchRain_0 rfl (lv_at hl 1 rfl) ?_
  refine lv_aload_n hx hb dX0_catchRain_1 rfl (lv_at hl 0 rfl) ?_
  refine rv_getG hx hb ht ui_X0 hown hK hM hR hi 0 (by decide) (ht _ uw_115) dX0_catchRain_2 ?_
  refine lv_imul hx hb dX0_catchRain_5 ?_
  refine lv_aload_n hx hb dX0_catchRain_6 rfl (lv_at hl 0 rfl) ?_
  refine rv_getG hx hb ht ui_X0 hown hK hM hR hi 2 (by decide) (ht _ uw_121) dX0_catchRain_7 ?_
  refine lv_imul hx hb dX0_catchRain_10 ?_
  refine lv_bipush (v := 100) hx hb dX0_catchRain_11 (by first | rfl | decide) ?_
  refine lv_idiv hx hb dX0_catchRain_13 (by decide) ?_
  refine lv_topi (fun f e_f => ?_)
  refine lv_istore_n (lv' := [(2, .int (f)), (0, .ref (b + 3 + 2 * i)), (1, .int (am))]) hx hb dX0_catchRain_14 rfl hl (by decide) rfl (fun ls hl => ?_)
  refine lv_aload_n hx hb dX0_catchRain_15 rfl (lv_at hl 1 rfl) ?_
  refine lv_dup hx hb dX0_catchRain_16 rfl ?_
  refine rv_getG hx hb ht ui_X0 hown hK hM hR hi 6 (by decide) (ht _ uw_132) dX0_catchRain_17 ?_
  refine lv_iload_n hx hb dX0_catchRain_20 rfl (lv_at hl 0 rfl) ?_
  refine lv_iadd hx hb dX0_catchRain_21 ?_
  refine rv_putG hx hb ht ui_X0 hown hK hM hS hR hF hi 6 (by decide) (ht _ uw_132) dX0_catchRain_22 (fun M H locs hM hR hF hS => ?_)
  refine lv_aload_n hx hb dX0_catchRain_25 rfl (lv_at hl 1 rfl) ?_
  refine lv_dup hx hb dX0_catchRain_26 rfl ?_
  refine rv_getG hx hb ht ui_X0 hown hK hM hR hi 4 (by decide) (ht _ uw_127) dX0_catchRain_27 ?_
  refine lv_iload_n hx hb dX0_catchRain_30 rfl (lv_at hl 0 rfl) ?_
  refine lv_iadd hx hb dX0_catchRain_31 ?_
  refine rv_putG hx hb ht ui_X0 hown hK hM hS hR hF hi 4 (by decide) (ht _ uw_127) dX0_catchRain_32 (fun M H locs hM hR hF hS => ?_)
  refine lv_aload_n hx hb dX0_catchRain_35 rfl (lv_at hl 1 rfl) ?_
  refine rv_getG hx hb ht ui_X0 hown hK hM hR hi 1 (by decide) (ht _ uw_118) dX0_catchRain_36 ?_
  refine lv_if_le (tgt := 54) hx hb dX0_catchRain_39 (by decide) (fun c_39 => ?_) (fun c_39 => ?_)
  · refine lv_iconst (v := 0) hx hb dX0_catchRain_54 (by first | rfl | decide) ?_
    refine lv_topi (fun t e_t => ?_)
    refine lv_istore_n (lv' := [(3, .int (t)), (2, .int (f)), (0, .ref (b + 3 + 2 * i)), (1, .int (am))]) hx hb dX0_catchRain_55 rfl hl (by decide) rfl (fun ls hl => ?_)
    refine lv_aload_n hx hb dX0_catchRain_56 rfl (lv_at hl 2 rfl) ?_
    refine lv_dup hx hb dX0_catchRain_57 rfl ?_
    refine rv_getG hx hb ht ui_X0 hown hK hM hR hi 4 (by decide) (ht _ uw_127) dX0_catchRain_58 ?_
    refine lv_iload_n hx hb dX0_catchRain_61 rfl (lv_at hl 0 rfl) ?_
    refine lv_aload_n hx hb dX0_catchRain_62 rfl (lv_at hl 2 rfl) ?_
    refine rv_getG hx hb ht ui_X0 hown hK hM hR hi 1 (by decide) (ht _ uw_118) dX0_catchRain_63 ?_
    refine lv_imul hx hb dX0_catchRain_66 ?_
    refine lv_isub hx hb dX0_catchRain_67 ?_
    refine rv_putG hx hb ht ui_X0 hown hK hM hS hR hF hi 4 (by decide) (ht _ uw_127) dX0_catchRain_68 (fun M H locs hM hR hF hS => ?_)
    refine lv_aload_n hx hb dX0_catchRain_71 rfl (lv_at hl 2 rfl) ?_
    refine lv_dup hx hb dX0_catchRain_72 rfl ?_
    refine rv_getG hx hb ht ui_X0 hown hK hM hR hi 7 (by decide) (ht _ uw_134) dX0_catchRain_73 ?_
    refine lv_iload_n hx hb dX0_catchRain_76 rfl (lv_at hl 0 rfl) ?_
    refine lv_aload_n hx hb dX0_catchRain_77 rfl (lv_at hl 2 rfl) ?_
    refine rv_getG hx hb ht ui_X0 hown hK hM hR hi 1 (by decide) (ht _ uw_118) dX0_catchRain_78 ?_
    refine lv_imul hx hb dX0_catchRain_81 ?_
    refine lv_iadd hx hb dX0_catchRain_82 ?_
    refine rv_putG hx hb ht ui_X0 hown hK hM hS hR hF hi 7 (by decide) (ht _ uw_134) dX0_catchRain_83 (fun M H locs hM hR hF hS => ?_)
    refine lv_aload_n hx hb dX0_catchRain_86 rfl (lv_at hl 2 rfl) ?_
    refine lv_dup hx hb dX0_catchRain_87 rfl ?_
    refine rv_getG hx hb ht ui_X0 hown hK hM hR hi 5 (by decide) (ht _ uw_130) dX0_catchRain_88 ?_
    refine lv_iload_n hx hb dX0_catchRain_91 rfl (lv_at hl 0 rfl) ?_
    refine lv_iadd hx hb dX0_catchRain_92 ?_
    refine rv_putG hx hb ht ui_X0 hown hK hM hS hR hF hi 5 (by decide) (ht _ uw_130) dX0_catchRain_93 (fun M H locs hM hR hF hS => ?_)
    refine lv_iload_n hx hb dX0_catchRain_96 rfl (lv_at hl 0 rfl) ?_
    subst hQ
    exact m_zret hx hb hr rfl hlk hK hM hS dX0_catchRain_97 (catch_end e_f (e_t.trans (by unfold tipC; rw [if_neg (fun q => absurd q (Int32.not_lt.mpr (by simpa [up2, va_up] using c_39)))])) hR hF)
  · refine lv_aload_n hx hb dX0_catchRain_42 rfl (lv_at hl 1 rfl) ?_
    refine rv_getG hx hb ht ui_X0 hown hK hM hR hi 4 (by decide) (ht _ uw_127) dX0_catchRain_43 ?_
    refine lv_aload_n hx hb dX0_catchRain_46 rfl (lv_at hl 1 rfl) ?_
    refine rv_getG hx hb ht ui_X0 hown hK hM hR hi 1 (by decide) (ht _ uw_118) dX0_catchRain_47 ?_
    refine lv_idiv hx hb dX0_catchRain_50 (c_nz c_39) ?_
    refine lv_goto (tgt := 55) hx hb dX0_catchRain_51 (by decide) ?_
    refine lv_topi (fun t e_t => ?_)
    refine lv_istore_n (lv' := [(3, .int (t)), (2, .int (f)), (0, .ref (b + 3 + 2 * i)), (1, .int (am))]) hx hb dX0_catchRain_55 rfl hl (by decide) rfl (fun ls hl => ?_)
    refine lv_aload_n hx hb dX0_catchRain_56 rfl (lv_at hl 2 rfl) ?_
    refine lv_dup hx hb dX0_catchRain_57 rfl ?_
    refine rv_getG hx hb ht ui_X0 hown hK hM hR hi 4 (by decide) (ht _ uw_127) dX0_catchRain_58 ?_
    refine lv_iload_n hx hb dX0_catchRain_61 rfl (lv_at hl 0 rfl) ?_
    refine lv_aload_n hx hb dX0_catchRain_62 rfl (lv_at hl 2 rfl) ?_
    refine rv_getG hx hb ht ui_X0 hown hK hM hR hi 1 (by decide) (ht _ uw_118) dX0_catchRain_63 ?_
    refine lv_imul hx hb dX0_catchRain_66 ?_
    refine lv_isub hx hb dX0_catchRain_67 ?_
    refine rv_putG hx hb ht ui_X0 hown hK hM hS hR hF hi 4 (by decide) (ht _ uw_127) dX0_catchRain_68 (fun M H locs hM hR hF hS => ?_)
    refine lv_aload_n hx hb dX0_catchRain_71 rfl (lv_at hl 2 rfl) ?_
    refine lv_dup hx hb dX0_catchRain_72 rfl ?_
    refine rv_getG hx hb ht ui_X0 hown hK hM hR hi 7 (by decide) (ht _ uw_134) dX0_catchRain_73 ?_
    refine lv_iload_n hx hb dX0_catchRain_76 rfl (lv_at hl 0 rfl) ?_
    refine lv_aload_n hx hb dX0_catchRain_77 rfl (lv_at hl 2 rfl) ?_
    refine rv_getG hx hb ht ui_X0 hown hK hM hR hi 1 (by decide) (ht _ uw_118) dX0_catchRain_78 ?_
    refine lv_imul hx hb dX0_catchRain_81 ?_
    refine lv_iadd hx hb dX0_catchRain_82 ?_
    refine rv_putG hx hb ht ui_X0 hown hK hM hS hR hF hi 7 (by decide) (ht _ uw_134) dX0_catchRain_83 (fun M H locs hM hR hF hS => ?_)
    refine lv_aload_n hx hb dX0_catchRain_86 rfl (lv_at hl 2 rfl) ?_
    refine lv_dup hx hb dX0_catchRain_87 rfl ?_
    refine rv_getG hx hb ht ui_X0 hown hK hM hR hi 5 (by decide) (ht _ uw_130) dX0_catchRain_88 ?_
    refine lv_iload_n hx hb dX0_catchRain_91 rfl (lv_at hl 0 rfl) ?_
    refine lv_iadd hx hb dX0_catchRain_92 ?_
    refine rv_putG hx hb ht ui_X0 hown hK hM hS hR hF hi 5 (by decide) (ht _ uw_130) dX0_catchRain_93 (fun M H locs hM hR hF hS => ?_)
    refine lv_iload_n hx hb dX0_catchRain_96 rfl (lv_at hl 0 rfl) ?_
    subst hQ
    exact m_zret hx hb hr rfl hlk hK hM hS dX0_catchRain_97 (catch_end e_f (e_t.trans (by unfold tipC; rw [if_pos (Int32.not_le.mp (by simpa [up2, va_up] using c_39)), show fellC v i am = f from e_f.symm]; simp [up2, va_up])) hR hF)

set_option maxHeartbeats 4000000 in
set_option maxRecDepth 100000 in
/-- the gauge of a number -/
theorem k_X6_gaugeAt (l : Launch) (g : GG) (A : Nat → Prop) (M0 : MM) (b : Nat) (π : Nat → Nat) (v : VV) (x : Int32) (o : Option Nat) (hR : RepV g A M0 b π v) (ho : gxn 6 x = o) : Met l yX6_gaugeAt (Uw yX6_gaugeAt cX6_gaugeAt 2 (Option.some (ClassFile.FieldType.object "ToldDrops$Gauge"))) (rmD 0) (PreM [.ref (b), .int (x)] g A M0) (PosQ (fun r M1 => r = o.map (fun i => b + 3 + 2 * i) ∧ M1 = M0) g A) 0 0 A := by
  refine mk_Met (own := RX6) rfl rfl (by decide) (Nat.le_of_ble_eq_true rfl) ?_
  intro p e s m below meth c ls aa Q haa hQ hx hb hr hlk hml hown hts hK hM hS hl hnm
  obtain ⟨M, hMM⟩ : ∃ M, M = M0 := ⟨_, rfl⟩
  rw [← hMM] at hM hR
  have ht : ∀ w ∈ lw_good, w.before _ s = true := fun w h => hts w (List.mem_cons_of_mem _ h)
  have hF : FrV b M0 M := by rw [hMM]; exact FrV.rf
  have hl : lv_has ls 2 [(0, .ref (b)), (1, .int (x))] := hl
  rcases gxn_cases (n := 6) (by decide) x with ⟨e1, h1⟩ | ⟨i, hi, ex, e1⟩
  · refine lv_iload_n hx hb dX6_gaugeAt_0 rfl (lv_at hl 1 rfl) ?_
    refine lv_if_lt (tgt := 22) hx hb dX6_gaugeAt_1 (by decide) (fun c_1 => ?_) (fun c_1 => ?_)
    · refine lv_null hx hb dX6_gaugeAt_22 ?_
      subst hQ
      exact m_aret (r := none) rfl hx hb hr hlk hK hM hS dX6_gaugeAt_23 (⟨by rw [← ho, e1]; rfl, hMM⟩)
    · refine lv_iload_n hx hb dX6_gaugeAt_4 rfl (lv_at hl 1 rfl) ?_
      refine lv_aload_n hx hb dX6_gaugeAt_5 rfl (lv_at hl 0 rfl) ?_
      refine rv_getga hx hb ht ui_X6 hown hK hM hR (ht _ uw_196) dX6_gaugeAt_6 ?_
      refine rv_lenG hx hb hK hM hR dX6_gaugeAt_9 ?_
      refine lv_icmp_ge (tgt := 22) hx hb dX6_gaugeAt_10 (by decide) (fun c_10 => ?_) (fun c_10 => absurd (h1.resolve_left c_1) c_10)
      refine lv_null hx hb dX6_gaugeAt_22 ?_
      subst hQ
      exact m_aret (r := none) rfl hx hb hr hlk hK hM hS dX6_gaugeAt_23 (⟨by rw [← ho, e1]; rfl, hMM⟩)
  · subst ex
    refine lv_iload_n hx hb dX6_gaugeAt_0 rfl (lv_at hl 1 rfl) ?_
    refine lv_if_lt (tgt := 22) hx hb dX6_gaugeAt_1 (by decide) (fun c_1 => absurd c_1 (nI_pos (by omega))) (fun c_1 => ?_)
    refine lv_iload_n hx hb dX6_gaugeAt_4 rfl (lv_at hl 1 rfl) ?_
    refine lv_aload_n hx hb dX6_gaugeAt_5 rfl (lv_at hl 0 rfl) ?_
    refine rv_getga hx hb ht ui_X6 hown hK hM hR (ht _ uw_196) dX6_gaugeAt_6 ?_
    refine rv_lenG hx hb hK hM hR dX6_gaugeAt_9 ?_
    refine lv_icmp_ge (tgt := 22) hx hb dX6_gaugeAt_10 (by decide) (fun c_10 => absurd c_10 (nI_ge hi (by decide))) (fun c_10 => ?_)
    refine lv_aload_n hx hb dX6_gaugeAt_13 rfl (lv_at hl 0 rfl) ?_
    refine rv_getga hx hb ht ui_X6 hown hK hM hR (ht _ uw_196) dX6_gaugeAt_14 ?_
    refine lv_iload_n hx hb dX6_gaugeAt_17 rfl (lv_at hl 1 rfl) ?_
    refine rv_aldG hx hb hK hM hR (hi) dX6_gaugeAt_18 ?_
    refine lv_goto (tgt := 23) hx hb dX6_gaugeAt_19 (by decide) ?_
    subst hQ
    exact m_aret (r := some (b + 3 + 2 * i)) rfl hx hb hr hlk hK hM hS dX6_gaugeAt_23 (⟨by rw [← ho, e1]; rfl, hMM⟩)

set_option maxHeartbeats 4000000 in
set_option maxRecDepth 100000 in
/-- the runner of a number -/
theorem k_X6_runnerAt (l : Launch) (g : GG) (A : Nat → Prop) (M0 : MM) (b : Nat) (π : Nat → Nat) (v : VV) (x : Int32) (o : Option Nat) (hR : RepV g A M0 b π v) (ho : (if v.1 3 ≤ x then none else gxn 20 x) = o) : Met l yX6_runnerAt (Uw yX6_runnerAt cX6_runnerAt 2 (Option.some (ClassFile.FieldType.object "ToldDrops$Runner"))) (rmD 0) (PreM [.ref (b), .int (x)] g A M0) (PosQ (fun r M1 => r = o.map (fun j => b + 15 + π j) ∧ M1 = M0) g A) 0 0 A := by
  refine mk_Met (own := RX6) rfl rfl (by decide) (Nat.le_of_ble_eq_true rfl) ?_
  intro p e s m below meth c ls aa Q haa hQ hx hb hr hlk hml hown hts hK hM hS hl hnm
  obtain ⟨M, hMM⟩ : ∃ M, M = M0 := ⟨_, rfl⟩
  rw [← hMM] at hM hR
  have ht : ∀ w ∈ lw_good, w.before _ s = true := fun w h => hts w (List.mem_cons_of_mem _ h)
  have hF : FrV b M0 M := by rw [hMM]; exact FrV.rf
  have hl : lv_has ls 2 [(0, .ref (b)), (1, .int (x))] := hl
  rcases gxn_cases (n := 20) (by decide) x with ⟨e1, h1⟩ | ⟨j, hj, ex, e1⟩
  · refine lv_iload_n hx hb dX6_runnerAt_0 rfl (lv_at hl 1 rfl) ?_
    refine lv_if_lt (tgt := 30) hx hb dX6_runnerAt_1 (by decide) (fun c_1 => ?_) (fun c_1 => ?_)
    · refine lv_null hx hb dX6_runnerAt_30 ?_
      subst hQ
      exact m_aret (r := none) rfl hx hb hr hlk hK hM hS dX6_runnerAt_31 (⟨by rw [← ho]; first | (rw [if_pos c_9]; rfl) | (rw [if_neg c_9, e1]; rfl) | (rw [e1]; simp), hMM⟩)
    · refine lv_iload_n hx hb dX6_runnerAt_4 rfl (lv_at hl 1 rfl) ?_
      refine lv_aload_n hx hb dX6_runnerAt_5 rfl (lv_at hl 0 rfl) ?_
      refine rv_getW hx hb ht ui_X6 hown hK hM hR 3 (by decide) (ht _ uw_194) dX6_runnerAt_6 ?_
      refine lv_icmp_ge (tgt := 30) hx hb dX6_runnerAt_9 (by decide) (fun c_9 => ?_) (fun c_9 => ?_)
      · refine lv_null hx hb dX6_runnerAt_30 ?_
        subst hQ
        exact m_aret (r := none) rfl hx hb hr hlk hK hM hS dX6_runnerAt_31 (⟨by rw [← ho]; first | (rw [if_pos c_9]; rfl) | (rw [if_neg c_9, e1]; rfl) | (rw [e1]; simp), hMM⟩)
      · refine lv_iload_n hx hb dX6_runnerAt_12 rfl (lv_at hl 1 rfl) ?_
        refine lv_aload_n hx hb dX6_runnerAt_13 rfl (lv_at hl 0 rfl) ?_
        refine rv_getra hx hb ht ui_X6 hown hK hM hR (ht _ uw_198) dX6_runnerAt_14 ?_
        refine rv_lenR hx hb hK hM hR dX6_runnerAt_17 ?_
        refine lv_icmp_ge (tgt := 30) hx hb dX6_runnerAt_18 (by decide) (fun c_18 => ?_) (fun c_18 => absurd (h1.resolve_left c_1) c_18)
        refine lv_null hx hb dX6_runnerAt_30 ?_
        subst hQ
        exact m_aret (r := none) rfl hx hb hr hlk hK hM hS dX6_runnerAt_31 (⟨by rw [← ho]; first | (rw [if_pos c_9]; rfl) | (rw [if_neg c_9, e1]; rfl) | (rw [e1]; simp), hMM⟩)
  · subst ex
    refine lv_iload_n hx hb dX6_runnerAt_0 rfl (lv_at hl 1 rfl) ?_
    refine lv_if_lt (tgt := 30) hx hb dX6_runnerAt_1 (by decide) (fun c_1 => absurd c_1 (nI_pos (by omega))) (fun c_1 => ?_)
    refine lv_iload_n hx hb dX6_runnerAt_4 rfl (lv_at hl 1 rfl) ?_
    refine lv_aload_n hx hb dX6_runnerAt_5 rfl (lv_at hl 0 rfl) ?_
    refine rv_getW hx hb ht ui_X6 hown hK hM hR 3 (by decide) (ht _ uw_194) dX6_runnerAt_6 ?_
    refine lv_icmp_ge (tgt := 30) hx hb dX6_runnerAt_9 (by decide) (fun c_9 => ?_) (fun c_9 => ?_)
    · refine lv_null hx hb dX6_runnerAt_30 ?_
      subst hQ
      exact m_aret (r := none) rfl hx hb hr hlk hK hM hS dX6_runnerAt_31 (⟨by rw [← ho]; first | (rw [if_pos c_9]; rfl) | (rw [if_neg c_9, e1]; rfl) | (rw [e1]; simp), hMM⟩)
    · refine lv_iload_n hx hb dX6_runnerAt_12 rfl (lv_at hl 1 rfl) ?_
      refine lv_aload_n hx hb dX6_runnerAt_13 rfl (lv_at hl 0 rfl) ?_
      refine rv_getra hx hb ht ui_X6 hown hK hM hR (ht _ uw_198) dX6_runnerAt_14 ?_
      refine rv_lenR hx hb hK hM hR dX6_runnerAt_17 ?_
      refine lv_icmp_ge (tgt := 30) hx hb dX6_runnerAt_18 (by decide) (fun c_18 => absurd c_18 (nI_ge hj (by decide))) (fun c_18 => ?_)
      refine lv_aload_n hx hb dX6_runnerAt_21 rfl (lv_at hl 0 rfl) ?_
      refine rv_getra hx hb ht ui_X6 hown hK hM hR (ht _ uw_198) dX6_runnerAt_22 ?_
      refine lv_iload_n hx hb dX6_runnerAt_25 rfl (lv_at hl 1 rfl) ?_
      refine rv_aldR hx hb hK hM hR (hj) dX6_runnerAt_26 ?_
      refine lv_goto (tgt := 31) hx hb dX6_runnerAt_27 (by decide) ?_
      subst hQ
      exact m_aret (r := some (b + 15 + π j)) rfl hx hb hr hlk hK hM hS dX6_runnerAt_31 (⟨by rw [← ho]; first | (rw [if_pos c_9]; rfl) | (rw [if_neg c_9, e1]; rfl) | (rw [e1]; simp), hMM⟩)

set_option maxHeartbeats 4000000 in
set_option maxRecDepth 100000 in
/-- whether nobody more can be on the way -/
theorem k_X6_isFull (l : Launch) (g : GG) (A : Nat → Prop) (M0 : MM) (b : Nat) (π : Nat → Nat) (v : VV) (hR : RepV g A M0 b π v)  : Met l yX6_isFull (Uw yX6_isFull cX6_isFull 1 (Option.some ClassFile.FieldType.boolean)) (rmD 0) (PreM [.ref (b)] g A M0) (PosI (fun r M1 => r = (if nI 20 ≤ v.1 3 then 1 else 0) ∧ M1 = M0) g A) 0 0 A := by
  refine mk_Met (own := RX6) rfl rfl (by decide) (Nat.le_of_ble_eq_true rfl) ?_
  intro p e s m below meth c ls aa Q haa hQ hx hb hr hlk hml hown hts hK hM hS hl hnm
  obtain ⟨M, hMM⟩ : ∃ M, M = M0 := ⟨_, rfl⟩
  rw [← hMM] at hM hR
  have ht : ∀ w ∈ lw_good, w.before _ s = true := fun w h => hts w (List.mem_cons_of_mem _ h)
  have hF : FrV b M0 M := by rw [hMM]; exact FrV.rf
  have hl : lv_has ls 1 [(0, .ref (b))] := hl
  refine lv_aload_n hx hb dX6_isFull_0 rfl (lv_at hl 0 rfl) ?_
  refine rv_getW hx hb ht ui_X6 hown hK hM hR 3 (by decide) (ht _ uw_194) dX6_isFull_1 ?_
  refine lv_aload_n hx hb dX6_isFull_4 rfl (lv_at hl 0 rfl) ?_
  refine rv_getra hx hb ht ui_X6 hown hK hM hR (ht _ uw_198) dX6_isFull_5 ?_
  refine rv_lenR hx hb hK hM hR dX6_isFull_8 ?_
  refine lv_icmp_lt (tgt := 16) hx hb dX6_isFull_9 (by decide) (fun c_9 => ?_) (fun c_9 => ?_)
  · refine lv_iconst (v := 0) hx hb dX6_isFull_16 (by first | rfl | decide) ?_
    subst hQ
    exact m_zret hx hb hr rfl hlk hK hM hS dX6_isFull_17 (⟨by first | rw [if_pos (Int32.not_lt.mp c_9)] | rw [if_neg (Int32.not_le.mpr c_9)], hMM⟩)
  · refine lv_iconst (v := 1) hx hb dX6_isFull_12 (by first | rfl | decide) ?_
    refine lv_goto (tgt := 17) hx hb dX6_isFull_13 (by decide) ?_
    subst hQ
    exact m_zret hx hb hr rfl hlk hK hM hS dX6_isFull_17 (⟨by first | rw [if_pos (Int32.not_lt.mp c_9)] | rw [if_neg (Int32.not_le.mpr c_9)], hMM⟩)

set_option maxHeartbeats 4000000 in
set_option maxRecDepth 100000 in
/-- whether so many more hours can pass -/
theorem k_X6_hasTimeFor (l : Launch) (g : GG) (A : Nat → Prop) (M0 : MM) (b : Nat) (π : Nat → Nat) (v : VV) (x : Int32) (hR : RepV g A M0 b π v)  : Met l yX6_hasTimeFor (Uw yX6_hasTimeFor cX6_hasTimeFor 2 (Option.some ClassFile.FieldType.boolean)) (rmD 0) (PreM [.ref (b), .int (x)] g A M0) (PosI (fun r M1 => r = (if v.1 2 + x ≤ 9999 then 1 else 0) ∧ M1 = M0) g A) 0 0 A := by
  refine mk_Met (own := RX6) rfl rfl (by decide) (Nat.le_of_ble_eq_true rfl) ?_
  intro p e s m below meth c ls aa Q haa hQ hx hb hr hlk hml hown hts hK hM hS hl hnm
  obtain ⟨M, hMM⟩ : ∃ M, M = M0 := ⟨_, rfl⟩
  rw [← hMM] at hM hR
  have ht : ∀ w ∈ lw_good, w.before _ s = true := fun w h => hts w (List.mem_cons_of_mem _ h)
  have hF : FrV b M0 M := by rw [hMM]; exact FrV.rf
  have hl : lv_has ls 2 [(0, .ref (b)), (1, .int (x))] := hl
  refine lv_aload_n hx hb dX6_hasTimeFor_0 rfl (lv_at hl 0 rfl) ?_
  refine rv_getW hx hb ht ui_X6 hown hK hM hR 2 (by decide) (ht _ uw_192) dX6_hasTimeFor_1 ?_
  refine lv_iload_n hx hb dX6_hasTimeFor_4 rfl (lv_at hl 1 rfl) ?_
  refine lv_iadd hx hb dX6_hasTimeFor_5 ?_
  refine lv_sipush (v := 9999) hx hb dX6_hasTimeFor_6 (by first | rfl | decide) ?_
  refine lv_icmp_gt (tgt := 16) hx hb dX6_hasTimeFor_9 (by decide) (fun c_9 => ?_) (fun c_9 => ?_)
  · refine lv_iconst (v := 0) hx hb dX6_hasTimeFor_16 (by first | rfl | decide) ?_
    subst hQ
    exact m_zret hx hb hr rfl hlk hK hM hS dX6_hasTimeFor_17 (⟨by first | rw [if_pos (Int32.not_lt.mp c_9)] | rw [if_neg (Int32.not_le.mpr c_9)], hMM⟩)
  · refine lv_iconst (v := 1) hx hb dX6_hasTimeFor_12 (by first | rfl | decide) ?_
    refine lv_goto (tgt := 17) hx hb dX6_hasTimeFor_13 (by decide) ?_
    subst hQ
    exact m_zret hx hb hr rfl hlk hK hM hS dX6_hasTimeFor_17 (⟨by first | rw [if_pos (Int32.not_lt.mp c_9)] | rw [if_neg (Int32.not_le.mpr c_9)], hMM⟩)

set_option maxHeartbeats 4000000 in
set_option maxRecDepth 100000 in
/-- where a wheel stands -/
theorem k_X6_wheelAt (l : Launch) (g : GG) (A : Nat → Prop) (M0 : MM) (b : Nat) (π : Nat → Nat) (v : VV) (x : Int32) (hR : RepV g A M0 b π v)  : Met l yX6_wheelAt (Uw yX6_wheelAt cX6_wheelAt 2 (Option.some ClassFile.FieldType.int)) (rmD 0) (PreM [.ref (b), .int (x)] g A M0) (PosI (fun r M1 => r = (whC v x) ∧ M1 = M0) g A) 0 0 A := by
  refine mk_Met (own := RX6) rfl rfl (by decide) (Nat.le_of_ble_eq_true rfl) ?_
  intro p e s m below meth c ls aa Q haa hQ hx hb hr hlk hml hown hts hK hM hS hl hnm
  obtain ⟨M, hMM⟩ : ∃ M, M = M0 := ⟨_, rfl⟩
  rw [← hMM] at hM hR
  have ht : ∀ w ∈ lw_good, w.before _ s = true := fun w h => hts w (List.mem_cons_of_mem _ h)
  have hF : FrV b M0 M := by rw [hMM]; exact FrV.rf
  have hl : lv_has ls 2 [(0, .ref (b)), (1, .int (x))] := hl
  refine lv_aload_n hx hb dX6_wheelAt_0 rfl (lv_at hl 0 rfl) ?_
  refine rv_getW hx hb ht ui_X6 hown hK hM hR 0 (by decide) (ht _ uw_188) dX6_wheelAt_1 ?_
  refine lv_if_le (tgt := 16) hx hb dX6_wheelAt_4 (by decide) (fun c_4 => ?_) (fun c_4 => ?_)
  · refine lv_iconst (v := 0) hx hb dX6_wheelAt_16 (by first | rfl | decide) ?_
    subst hQ
    exact m_zret hx hb hr rfl hlk hK hM hS dX6_wheelAt_17 (⟨by unfold whC; first | rw [if_pos (Int32.not_le.mp c_4)] | rw [if_neg (Int32.not_lt.mpr c_4)], hMM⟩)
  · refine lv_iload_n hx hb dX6_wheelAt_7 rfl (lv_at hl 1 rfl) ?_
    refine lv_aload_n hx hb dX6_wheelAt_8 rfl (lv_at hl 0 rfl) ?_
    refine rv_getW hx hb ht ui_X6 hown hK hM hR 0 (by decide) (ht _ uw_188) dX6_wheelAt_9 ?_
    refine lv_irem hx hb dX6_wheelAt_12 (c_nz c_4) ?_
    refine lv_goto (tgt := 17) hx hb dX6_wheelAt_13 (by decide) ?_
    subst hQ
    exact m_zret hx hb hr rfl hlk hK hM hS dX6_wheelAt_17 (⟨by unfold whC; first | rw [if_pos (Int32.not_le.mp c_4)] | rw [if_neg (Int32.not_lt.mpr c_4)], hMM⟩)

