def sizC (x : Int32) : Int32 := if x < 0 then -x else x
def codM (x : Int64) (q : Int32) : Int32 := (((x.toUInt64 >>> ((8 * q).toInt64.toUInt64 &&& Int64.toUInt64 63)).toInt64) &&& 255).toInt32
def cpN (n : Nat) (f h : Nat → Int32) : Nat → Int32 := fun k => if k < n then h k else f k
theorem cpN_0 (f h : Nat → Int32) : cpN 0 f h = f := by funext k; exact if_neg (by omega)
theorem cpN_up (n : Nat) (f h : Nat → Int32) : cpN (n + 1) f h = va_up (cpN n f h) n (h n) := by
  funext k
  unfold cpN va_up
  dsimp only
  by_cases hk : k = n
  · subst hk; simp
  · rw [if_neg hk]
    by_cases h2 : k < n
    · rw [if_pos h2, if_pos (by omega)]
    · rw [if_neg h2, if_neg (by omega)]
def shN (q : Nat) (f : Nat → Int32) : Nat → Int32 := fun k => if k < q then f (226 + k) else f k
theorem shN_0 (f : Nat → Int32) : shN 0 f = f := by funext k; exact if_neg (by omega)
theorem shN_up (q : Nat) (f : Nat → Int32) : shN (q + 1) f = va_up (shN q f) q (shN q f (226 + q)) := by
  funext k
  unfold shN va_up
  dsimp only
  by_cases hk : k = q
  · subst hk
    rw [if_pos (by omega), if_pos rfl, if_neg (by omega)]
  · rw [if_neg hk]
    by_cases h2 : k < q
    · rw [if_pos h2, if_pos (by omega)]
    · rw [if_neg h2, if_neg (by omega)]
/-- the part j of the row takes q numbers over -/
def wrN (j q : Nat) (f σ : Nat → Int32) : Nat → Int32 := fun k => if 226 * j ≤ k ∧ k < 226 * j + q then σ (k - 226 * j) else f k
theorem wrN_0 (j : Nat) (f σ : Nat → Int32) : wrN j 0 f σ = f := by funext k; exact if_neg (by omega)
theorem wrN_up (j q : Nat) (f σ : Nat → Int32) : wrN j (q + 1) f σ = va_up (wrN j q f σ) (226 * j + q) (σ q) := by
  funext k
  unfold wrN va_up
  dsimp only
  by_cases hk : k = 226 * j + q
  · subst hk
    rw [if_pos (by omega), if_pos rfl]
    congr 1
    omega
  · rw [if_neg hk]
    by_cases h2 : 226 * j ≤ k ∧ k < 226 * j + q
    · rw [if_pos h2, if_pos (by omega)]
    · rw [if_neg h2, if_neg (by omega)]
def savB (k : Nat) (f σ : Nat → Int32) : Nat → Int32 := if k = 6 then wrN 5 226 (shN 1130 f) σ else wrN k 226 f σ
theorem savB_6 (f σ : Nat → Int32) : wrN 5 226 (shN 1130 f) σ = savB 6 f σ := rfl
theorem savB_n {k : Nat} (h : ¬ k = 6) (f σ : Nat → Int32) : wrN k 226 f σ = savB k f σ := (if_neg h).symm
/-- a runner's row taken out of the row of numbers -/
def drA (k i n : Nat) (σ : Nat → Int32) : Nat → Int32 := fun q => if q = 105 then nI (n - 1) else if 106 + 6 * k ≤ q ∧ q < i then σ (q + 6) else σ q
def drB (k z n : Nat) (σ : Nat → Int32) : Nat → Int32 := fun q => if 106 + 6 * (n - 1) ≤ q ∧ q < 106 + 6 * (n - 1) + z then 0 else drA k (106 + 6 * (n - 1)) n σ q
def drM (k n : Nat) (σ : Nat → Int32) : Nat → Int32 := drB k 6 n σ
theorem drA_0 (k n : Nat) (σ : Nat → Int32) : drA k (106 + 6 * k) n σ = va_up σ 105 (nI (n - 1)) := by
  funext q
  unfold drA va_up
  by_cases h : q = 105
  · rw [if_pos h, if_pos h]
  · rw [if_neg h, if_neg h, if_neg (by omega)]
theorem drA_up {k i n : Nat} {σ : Nat → Int32} (h1 : 106 + 6 * k ≤ i) (h2 : i < 106 + 6 * (n - 1)) : drA k (i + 1) n σ = va_up (drA k i n σ) i (drA k i n σ (i + 6)) := by
  funext q
  unfold drA va_up
  dsimp only
  by_cases h : q = i
  · subst h
    rw [if_neg (by omega), if_pos (by omega), if_pos rfl, if_neg (by omega), if_neg (by omega)]
  · rw [if_neg h]
    by_cases h5 : q = 105
    · rw [if_pos h5, if_pos h5]
    · rw [if_neg h5, if_neg h5]
      by_cases h6 : 106 + 6 * k ≤ q ∧ q < i
      · rw [if_pos h6, if_pos (by omega)]
      · rw [if_neg h6, if_neg (by omega)]
theorem drB_0 (k n : Nat) (σ : Nat → Int32) : drB k 0 n σ = drA k (106 + 6 * (n - 1)) n σ := by funext q; exact if_neg (by omega)
theorem drB_up (k z n : Nat) (σ : Nat → Int32) : drB k (z + 1) n σ = va_up (drB k z n σ) (106 + 6 * (n - 1) + z) (nI 0) := by
  funext q
  unfold drB va_up
  dsimp only
  by_cases h : q = 106 + 6 * (n - 1) + z
  · rw [if_pos (by omega), if_pos h]
    rfl
  · rw [if_neg h]
    by_cases h6 : 106 + 6 * (n - 1) ≤ q ∧ q < 106 + 6 * (n - 1) + z
    · rw [if_pos h6, if_pos (by omega)]
    · rw [if_neg h6, if_neg (by omega)]
theorem dr_105a {k i n : Nat} {σ : Nat → Int32} (hk : k < n) (h1 : 106 + 6 * k ≤ i) (h2 : i ≤ 106 + 6 * (n - 1)) : drA k i n σ 105 = nI (n - 1) := if_pos rfl
theorem dr_105b {k z n : Nat} {σ : Nat → Int32} (hk : k < n) (h1 : z ≤ 6) : drB k z n σ 105 = nI (n - 1) := by
  unfold drB
  rw [if_neg (by omega)]
  exact if_pos rfl
set_option maxHeartbeats 4000000 in
set_option maxRecDepth 100000 in
/-- in -/
theorem k_X8_in (l : Launch) (g : GG) (A : Nat → Prop) (M0 : MM) (x lo hi : Int32) : Met l yX8_in (Uw yX8_in cX8_in 3 (Option.some ClassFile.FieldType.boolean)) (rmD 0) (PreM [.int (x), .int (lo), .int (hi)] g A M0) (PosI (fun r M1 => r = (winC x lo hi) ∧ M1 = M0) g A) 0 0 A := by
  refine mk_Met (own := RX8) rfl rfl (by decide) (Nat.le_of_ble_eq_true rfl) ?_
  intro p e s m below meth c ls aa Q haa hQ hx hb hr hlk hml hown hts hK hM hS hl hnm
  obtain ⟨M, hMM⟩ : ∃ M, M = M0 := ⟨_, rfl⟩
  rw [← hMM] at hM
  have ht : ∀ w ∈ lw_good, w.before _ s = true := fun w h => hts w (List.mem_cons_of_mem _ h)
  have hl : lv_has ls 3 [(0, .int (x)), (1, .int (lo)), (2, .int (hi))] := hl
  refine lv_iload_n hx hb dX8_in_0 rfl (lv_at hl 0 rfl) ?_
  refine lv_iload_n hx hb dX8_in_1 rfl (lv_at hl 1 rfl) ?_
  refine lv_icmp_lt (tgt := 14) hx hb dX8_in_2 (by decide) (fun c_2 => ?_) (fun c_2 => ?_)
  · refine lv_iconst (v := 0) hx hb dX8_in_14 (by first | rfl | decide) ?_
    subst hQ
    exact m_zret hx hb hr (rfl) hlk hK hM hS dX8_in_15 (⟨by first | exact win_1 c_2 | exact win_2 c_7, hMM⟩)
  · refine lv_iload_n hx hb dX8_in_5 rfl (lv_at hl 0 rfl) ?_
    refine lv_iload_n hx hb dX8_in_6 rfl (lv_at hl 2 rfl) ?_
    refine lv_icmp_gt (tgt := 14) hx hb dX8_in_7 (by decide) (fun c_7 => ?_) (fun c_7 => ?_)
    · refine lv_iconst (v := 0) hx hb dX8_in_14 (by first | rfl | decide) ?_
      subst hQ
      exact m_zret hx hb hr (rfl) hlk hK hM hS dX8_in_15 (⟨by first | exact win_1 c_2 | exact win_2 c_7, hMM⟩)
    · refine lv_iconst (v := 1) hx hb dX8_in_10 (by first | rfl | decide) ?_
      refine lv_goto (tgt := 15) hx hb dX8_in_11 (by decide) ?_
      subst hQ
      exact m_zret hx hb hr (rfl) hlk hK hM hS dX8_in_15 (⟨win_y c_2 c_7, hMM⟩)

set_option maxHeartbeats 4000000 in
set_option maxRecDepth 100000 in
/-- isGauge -/
theorem k_X8_isGauge (l : Launch) (g : GG) (A : Nat → Prop) (M0 : MM) (x : Int32) : Met l yX8_isGauge (Uw yX8_isGauge cX8_isGauge 1 (Option.some ClassFile.FieldType.boolean)) (rmD 1) (PreM [.int (x)] g A M0) (PosI (fun r M1 => r = (winC x 0 5) ∧ M1 = M0) g A) 0 0 A := by
  refine mk_Met (own := RX8) rfl rfl (by decide) (Nat.le_of_ble_eq_true rfl) ?_
  intro p e s m below meth c ls aa Q haa hQ hx hb hr hlk hml hown hts hK hM hS hl hnm
  obtain ⟨M, hMM⟩ : ∃ M, M = M0 := ⟨_, rfl⟩
  rw [← hMM] at hM
  have ht : ∀ w ∈ lw_good, w.before _ s = true := fun w h => hts w (List.mem_cons_of_mem _ h)
  have hl : lv_has ls 1 [(0, .int (x))] := hl
  refine lv_iload_n hx hb dX8_isGauge_0 rfl (lv_at hl 0 rfl) ?_
  refine lv_iconst (v := 0) hx hb dX8_isGauge_1 (by first | rfl | decide) ?_
  refine lv_iconst (v := 5) hx hb dX8_isGauge_2 (by first | rfl | decide) ?_
  refine m_callRSI (val := winC (x) (0) (5)) (As := [.int (x), .int (0), .int (5)]) (rest := []) ⟨hx, hb, hml, hown, ht⟩ (k_X8_in l g A M (x) (0) (5)) (cwS 3 ht (gUS uw_630 uw_631 uw_42 uw_632) rfl rfl rfl (by decide +kernel) ⟨by decide, by decide⟩) hK hM hS rfl hl.1 rfl (Nat.le_of_ble_eq_true rfl) dX8_isGauge_3 ⟨by decide, by decide⟩ (fun H locs hM hS => ?_)
  subst hQ
  exact m_zret hx hb hr (by unfold winC; exact nar_ite) hlk hK hM hS dX8_isGauge_6 (⟨rfl, hMM⟩)

set_option maxHeartbeats 4000000 in
set_option maxRecDepth 100000 in
/-- size -/
theorem k_X8_size (l : Launch) (g : GG) (A : Nat → Prop) (M0 : MM) (x : Int32) : Met l yX8_size (Uw yX8_size cX8_size 1 (Option.some ClassFile.FieldType.int)) (rmD 0) (PreM [.int (x)] g A M0) (PosI (fun r M1 => r = (sizC x) ∧ M1 = M0) g A) 0 0 A := by
  refine mk_Met (own := RX8) rfl rfl (by decide) (Nat.le_of_ble_eq_true rfl) ?_
  intro p e s m below meth c ls aa Q haa hQ hx hb hr hlk hml hown hts hK hM hS hl hnm
  obtain ⟨M, hMM⟩ : ∃ M, M = M0 := ⟨_, rfl⟩
  rw [← hMM] at hM
  have ht : ∀ w ∈ lw_good, w.before _ s = true := fun w h => hts w (List.mem_cons_of_mem _ h)
  have hl : lv_has ls 1 [(0, .int (x))] := hl
  refine lv_iload_n hx hb dX8_size_0 rfl (lv_at hl 0 rfl) ?_
  refine lv_if_ge (tgt := 9) hx hb dX8_size_1 (by decide) (fun c_1 => ?_) (fun c_1 => ?_)
  · refine lv_iload_n hx hb dX8_size_9 rfl (lv_at hl 0 rfl) ?_
    subst hQ
    exact m_zret hx hb hr (rfl) hlk hK hM hS dX8_size_10 (⟨by unfold sizC; first | rw [if_pos (Int32.not_le.mp c_1)] | rw [if_neg (Int32.not_lt.mpr c_1)], hMM⟩)
  · refine lv_iload_n hx hb dX8_size_4 rfl (lv_at hl 0 rfl) ?_
    refine lv_ineg hx hb dX8_size_5 ?_
    refine lv_goto (tgt := 10) hx hb dX8_size_6 (by decide) ?_
    subst hQ
    exact m_zret hx hb hr (rfl) hlk hK hM hS dX8_size_10 (⟨by unfold sizC; first | rw [if_pos (Int32.not_le.mp c_1)] | rw [if_neg (Int32.not_lt.mpr c_1)], hMM⟩)

set_option maxHeartbeats 4000000 in
set_option maxRecDepth 100000 in
/-- code -/
theorem k_X8_code (l : Launch) (g : GG) (A : Nat → Prop) (M0 : MM) (x : Int64) (q : Int32) : Met l yX8_code (Uw yX8_code cX8_code 3 (Option.some ClassFile.FieldType.int)) (rmD 0) (PreM [.long (x), .int (q)] g A M0) (PosI (fun r M1 => r = (codM x q) ∧ M1 = M0) g A) 0 0 A := by
  refine mk_Met (own := RX8) rfl rfl (by decide) (Nat.le_of_ble_eq_true rfl) ?_
  intro p e s m below meth c ls aa Q haa hQ hx hb hr hlk hml hown hts hK hM hS hl hnm
  obtain ⟨M, hMM⟩ : ∃ M, M = M0 := ⟨_, rfl⟩
  rw [← hMM] at hM
  have ht : ∀ w ∈ lw_good, w.before _ s = true := fun w h => hts w (List.mem_cons_of_mem _ h)
  have hl : lv_has ls 3 [(0, .long (x)), (2, .int (q))] := hl
  refine lv_lload_n hx hb dX8_code_0 rfl (lv_at hl 0 rfl) ?_
  refine lv_bipush (v := 8) hx hb dX8_code_1 (by first | rfl | decide) ?_
  refine lv_iload_n hx hb dX8_code_3 rfl (lv_at hl 1 rfl) ?_
  refine lv_imul hx hb dX8_code_4 ?_
  refine lv_lushr (v := ((x).toUInt64 >>> (((8) * (q)).toInt64.toUInt64 &&& Int64.toUInt64 63)).toInt64) hx hb dX8_code_5 rfl ?_
  refine lv_ldc2 (v := 255) hx hb hown (ht _ uw_795) dX8_code_6 ?_
  refine lv_land hx hb dX8_code_9 ?_
  refine lv_l2i (v := ((((x).toUInt64 >>> (((8) * (q)).toInt64.toUInt64 &&& Int64.toUInt64 63)).toInt64) &&& (255)).toInt32) hx hb dX8_code_10 rfl ?_
  subst hQ
  exact m_zret hx hb hr (rfl) hlk hK hM hS dX8_code_11 (⟨rfl, hMM⟩)

set_option maxHeartbeats 4000000 in
set_option maxRecDepth 100000 in
/-- of -/
theorem k_X8_of (l : Launch) (g : GG) (A : Nat → Prop) (M0 : MM) (Y : Nat) (σ : Nat → Int32) (ar : Nat → Nat → Int32) (ns : Nat → Int32) (hR : RepM g A M0 Y σ ar ns) (i k : Nat) (hik : 17 * i + k < 226)  : Met l yX8_of (Uw yX8_of cX8_of 3 (Option.some ClassFile.FieldType.int)) (rmD 0) (PreM [.ref (Y), .int (nI i), .int (nI k)] g A M0) (PosI (fun r M1 => r = (σ (17 * i + k)) ∧ M1 = M0) g A) 0 0 A := by
  refine mk_Met (own := RX8) rfl rfl (by decide) (Nat.le_of_ble_eq_true rfl) ?_
  intro p e s m below meth c ls aa Q haa hQ hx hb hr hlk hml hown hts hK hM hS hl hnm
  obtain ⟨M, hMM⟩ : ∃ M, M = M0 := ⟨_, rfl⟩
  rw [← hMM] at hM hR
  have ht : ∀ w ∈ lw_good, w.before _ s = true := fun w h => hts w (List.mem_cons_of_mem _ h)
  have hF : FrM Y M0 M := by rw [hMM]; exact FrM.rf
  have hl : lv_has ls 3 [(0, .ref (Y)), (1, .int (nI i)), (2, .int (nI k))] := hl
  refine lv_aload_n hx hb dX8_of_0 rfl (lv_at hl 0 rfl) ?_
  refine rm_getS hx hb ht ui_X8 hown hK hM hR (ht _ uw_594) dX8_of_1 ?_
  refine lv_bipush (v := nI 17) hx hb dX8_of_4 (by first | rfl | decide) ?_
  refine lv_iload_n hx hb dX8_of_6 rfl (lv_at hl 1 rfl) ?_
  refine lv_imul hx hb dX8_of_7 ?_
  rw [pk_mul (17) (i)]
  refine lv_iload_n hx hb dX8_of_8 rfl (lv_at hl 2 rfl) ?_
  refine lv_iadd hx hb dX8_of_9 ?_
  rw [nI_add ((17 * i)) (k)]
  refine rm_sald hx hb hK hM hR (i := ((17 * i) + k)) (by omega) dX8_of_10 ?_
  subst hQ
  exact m_zret hx hb hr (rfl) hlk hK hM hS dX8_of_11 (⟨rfl, hMM⟩)

set_option maxHeartbeats 4000000 in
set_option maxRecDepth 100000 in
/-- add -/
theorem k_X8_add (l : Launch) (g : GG) (A : Nat → Prop) (M0 : MM) (Y : Nat) (σ : Nat → Int32) (ar : Nat → Nat → Int32) (ns : Nat → Int32) (hR : RepM g A M0 Y σ ar ns) (i k : Nat) (x : Int32) (hik : 17 * i + k < 226)  : Met l yX8_add (Uw yX8_add cX8_add 4 (Option.none : Option ClassFile.FieldType)) (rmD 0) (PreM [.ref (Y), .int (nI i), .int (nI k), .int (x)] g A M0) (PosV (fun M1 => RepM g A M1 Y (va_up σ (17 * i + k) (σ (17 * i + k) + x)) (ar) (ns) ∧ FrM Y M0 M1) g A) 0 0 A := by
  refine mk_Met (own := RX8) rfl rfl (by decide) (Nat.le_of_ble_eq_true rfl) ?_
  intro p e s m below meth c ls aa Q haa hQ hx hb hr hlk hml hown hts hK hM hS hl hnm
  obtain ⟨M, hMM⟩ : ∃ M, M = M0 := ⟨_, rfl⟩
  rw [← hMM] at hM hR
  have ht : ∀ w ∈ lw_good, w.before _ s = true := fun w h => hts w (List.mem_cons_of_mem _ h)
  have hF : FrM Y M0 M := by rw [hMM]; exact FrM.rf
  have hl : lv_has ls 4 [(0, .ref (Y)), (1, .int (nI i)), (2, .int (nI k)), (3, .int (x))] := hl
  refine lv_aload_n hx hb dX8_add_0 rfl (lv_at hl 0 rfl) ?_
  refine rm_getS hx hb ht ui_X8 hown hK hM hR (ht _ uw_594) dX8_add_1 ?_
  refine lv_bipush (v := nI 17) hx hb dX8_add_4 (by first | rfl | decide) ?_
  refine lv_iload_n hx hb dX8_add_6 rfl (lv_at hl 1 rfl) ?_
  refine lv_imul hx hb dX8_add_7 ?_
  rw [pk_mul (17) (i)]
  refine lv_iload_n hx hb dX8_add_8 rfl (lv_at hl 2 rfl) ?_
  refine lv_iadd hx hb dX8_add_9 ?_
  rw [nI_add ((17 * i)) (k)]
  refine lv_dup2_11 hx hb dX8_add_10 rfl rfl ?_
  refine rm_sald hx hb hK hM hR (i := ((17 * i) + k)) (by omega) dX8_add_11 ?_
  refine lv_iload_n hx hb dX8_add_12 rfl (lv_at hl 3 rfl) ?_
  refine lv_iadd hx hb dX8_add_13 ?_
  refine rm_sast hx hb hK hM hS hR hF (i := ((17 * i) + k)) (by omega) dX8_add_14 (fun M H locs hM hR hF hS => ?_)
  subst hQ
  exact m_vret hx hb hr hlk hK hM hS dX8_add_15 (⟨hR, hF⟩)

set_option maxHeartbeats 4000000 in
set_option maxRecDepth 100000 in
/-- runnerOf -/
theorem k_X8_runnerOf (l : Launch) (g : GG) (A : Nat → Prop) (M0 : MM) (Y : Nat) (σ : Nat → Int32) (ar : Nat → Nat → Int32) (ns : Nat → Int32) (hR : RepM g A M0 Y σ ar ns) (i k : Nat) (hik : 106 + 6 * i + k < 226)  : Met l yX8_runnerOf (Uw yX8_runnerOf cX8_runnerOf 3 (Option.some ClassFile.FieldType.int)) (rmD 0) (PreM [.ref (Y), .int (nI i), .int (nI k)] g A M0) (PosI (fun r M1 => r = (σ (106 + 6 * i + k)) ∧ M1 = M0) g A) 0 0 A := by
  refine mk_Met (own := RX8) rfl rfl (by decide) (Nat.le_of_ble_eq_true rfl) ?_
  intro p e s m below meth c ls aa Q haa hQ hx hb hr hlk hml hown hts hK hM hS hl hnm
  obtain ⟨M, hMM⟩ : ∃ M, M = M0 := ⟨_, rfl⟩
  rw [← hMM] at hM hR
  have ht : ∀ w ∈ lw_good, w.before _ s = true := fun w h => hts w (List.mem_cons_of_mem _ h)
  have hF : FrM Y M0 M := by rw [hMM]; exact FrM.rf
  have hl : lv_has ls 3 [(0, .ref (Y)), (1, .int (nI i)), (2, .int (nI k))] := hl
  refine lv_aload_n hx hb dX8_runnerOf_0 rfl (lv_at hl 0 rfl) ?_
  refine rm_getS hx hb ht ui_X8 hown hK hM hR (ht _ uw_594) dX8_runnerOf_1 ?_
  refine lv_bipush (v := nI 106) hx hb dX8_runnerOf_4 (by first | rfl | decide) ?_
  refine lv_bipush (v := nI 6) hx hb dX8_runnerOf_6 (by first | rfl | decide) ?_
  refine lv_iload_n hx hb dX8_runnerOf_8 rfl (lv_at hl 1 rfl) ?_
  refine lv_imul hx hb dX8_runnerOf_9 ?_
  rw [pk_mul (6) (i)]
  refine lv_iadd hx hb dX8_runnerOf_10 ?_
  rw [nI_add (106) ((6 * i))]
  refine lv_iload_n hx hb dX8_runnerOf_11 rfl (lv_at hl 2 rfl) ?_
  refine lv_iadd hx hb dX8_runnerOf_12 ?_
  rw [nI_add ((106 + (6 * i))) (k)]
  refine rm_sald hx hb hK hM hR (i := ((106 + (6 * i)) + k)) (by omega) dX8_runnerOf_13 ?_
  subst hQ
  exact m_zret hx hb hr (rfl) hlk hK hM hS dX8_runnerOf_14 (⟨rfl, hMM⟩)

set_option maxHeartbeats 4000000 in
set_option maxRecDepth 100000 in
/-- wheel -/
theorem k_X8_wheel (l : Launch) (g : GG) (A : Nat → Prop) (M0 : MM) (Y : Nat) (σ : Nat → Int32) (ar : Nat → Nat → Int32) (ns : Nat → Int32) (hR : RepM g A M0 Y σ ar ns) (i : Nat) (hi : i < 6) (hw : ¬ σ 102 = 0)  : Met l yX8_wheel (Uw yX8_wheel cX8_wheel 2 (Option.some ClassFile.FieldType.int)) (rmD 1) (PreM [.ref (Y), .int (nI i)] g A M0) (PosI (fun r M1 => r = (σ (17 * i + 5) - σ (17 * i + 5) / σ 102 * σ 102) ∧ M1 = M0) g A) 0 0 A := by
  refine mk_Met (own := RX8) rfl rfl (by decide) (Nat.le_of_ble_eq_true rfl) ?_
  intro p e s m below meth c ls aa Q haa hQ hx hb hr hlk hml hown hts hK hM hS hl hnm
  obtain ⟨M, hMM⟩ : ∃ M, M = M0 := ⟨_, rfl⟩
  rw [← hMM] at hM hR
  have ht : ∀ w ∈ lw_good, w.before _ s = true := fun w h => hts w (List.mem_cons_of_mem _ h)
  have hF : FrM Y M0 M := by rw [hMM]; exact FrM.rf
  have hl : lv_has ls 2 [(0, .ref (Y)), (1, .int (nI i))] := hl
  refine lv_aload_n hx hb dX8_wheel_0 rfl (lv_at hl 0 rfl) ?_
  refine lv_iload_n hx hb dX8_wheel_1 rfl (lv_at hl 1 rfl) ?_
  refine lv_iconst (v := nI 5) hx hb dX8_wheel_2 (by first | rfl | decide) ?_
  refine m_callRI (val := σ (17 * i + 5)) (As := [.int (nI i), .int (nI 5)]) (rest := []) ⟨hx, hb, hml, hown, ht⟩ (k_X8_of l g A M Y σ ar ns hR i 5 (by omega)) (cwV 2 ht (gU uw_650 uw_652 uw_15 uw_42 uw_653) rfl rfl rfl (by decide +kernel) ⟨by decide, by decide⟩) hK hM hS (m_recv hK hM (hR.1 Y (by omega) (by omega)) hR.2.1 rfl) rfl hl.1 rfl (Nat.le_of_ble_eq_true rfl) dX8_wheel_3 ⟨by decide, by decide⟩ (fun H locs hM hS => ?_)
  refine lv_aload_n hx hb dX8_wheel_6 rfl (lv_at hl 0 rfl) ?_
  refine rm_getS hx hb ht ui_X8 hown hK hM hR (ht _ uw_594) dX8_wheel_7 ?_
  refine lv_bipush (v := nI 102) hx hb dX8_wheel_10 (by first | rfl | decide) ?_
  refine rm_sald hx hb hK hM hR (i := 102) (by omega) dX8_wheel_12 ?_
  refine lv_irem hx hb dX8_wheel_13 (hw) ?_
  subst hQ
  exact m_zret hx hb hr (rfl) hlk hK hM hS dX8_wheel_14 (⟨rfl, hMM⟩)

set_option maxHeartbeats 4000000 in
set_option maxRecDepth 100000 in
/-- gap -/
theorem k_X8_gap (l : Launch) (g : GG) (A : Nat → Prop) (M0 : MM) (Y : Nat) (σ : Nat → Int32) (ar : Nat → Nat → Int32) (ns : Nat → Int32) (hR : RepM g A M0 Y σ ar ns) (i : Nat) (hi : i < 6)  : Met l yX8_gap (Uw yX8_gap cX8_gap 2 (Option.some ClassFile.FieldType.int)) (rmD 1) (PreM [.ref (Y), .int (nI i)] g A M0) (PosI (fun r M1 => r = (σ (17 * i + 5) - σ (17 * i + 8)) ∧ M1 = M0) g A) 0 0 A := by
  refine mk_Met (own := RX8) rfl rfl (by decide) (Nat.le_of_ble_eq_true rfl) ?_
  intro p e s m below meth c ls aa Q haa hQ hx hb hr hlk hml hown hts hK hM hS hl hnm
  obtain ⟨M, hMM⟩ : ∃ M, M = M0 := ⟨_, rfl⟩
  rw [← hMM] at hM hR
  have ht : ∀ w ∈ lw_good, w.before _ s = true := fun w h => hts w (List.mem_cons_of_mem _ h)
  have hF : FrM Y M0 M := by rw [hMM]; exact FrM.rf
  have hl : lv_has ls 2 [(0, .ref (Y)), (1, .int (nI i))] := hl
  refine lv_aload_n hx hb dX8_gap_0 rfl (lv_at hl 0 rfl) ?_
  refine lv_iload_n hx hb dX8_gap_1 rfl (lv_at hl 1 rfl) ?_
  refine lv_iconst (v := nI 5) hx hb dX8_gap_2 (by first | rfl | decide) ?_
  refine m_callRI (val := σ (17 * i + 5)) (As := [.int (nI i), .int (nI 5)]) (rest := []) ⟨hx, hb, hml, hown, ht⟩ (k_X8_of l g A M Y σ ar ns hR i 5 (by omega)) (cwV 2 ht (gU uw_650 uw_652 uw_15 uw_42 uw_653) rfl rfl rfl (by decide +kernel) ⟨by decide, by decide⟩) hK hM hS (m_recv hK hM (hR.1 Y (by omega) (by omega)) hR.2.1 rfl) rfl hl.1 rfl (Nat.le_of_ble_eq_true rfl) dX8_gap_3 ⟨by decide, by decide⟩ (fun H locs hM hS => ?_)
  refine lv_aload_n hx hb dX8_gap_6 rfl (lv_at hl 0 rfl) ?_
  refine lv_iload_n hx hb dX8_gap_7 rfl (lv_at hl 1 rfl) ?_
  refine lv_bipush (v := nI 8) hx hb dX8_gap_8 (by first | rfl | decide) ?_
  refine m_callRI (val := σ (17 * i + 8)) (As := [.int (nI i), .int (nI 8)]) (rest := [.int (σ (17 * i + 5))]) ⟨hx, hb, hml, hown, ht⟩ (k_X8_of l g A M Y σ ar ns hR i 8 (by omega)) (cwV 2 ht (gU uw_650 uw_652 uw_15 uw_42 uw_653) rfl rfl rfl (by decide +kernel) ⟨by decide, by decide⟩) hK hM hS (m_recv hK hM (hR.1 Y (by omega) (by omega)) hR.2.1 rfl) rfl hl.1 rfl (Nat.le_of_ble_eq_true rfl) dX8_gap_10 ⟨by decide, by decide⟩ (fun H locs hM hS => ?_)
  refine lv_isub hx hb dX8_gap_13 ?_
  subst hQ
  exact m_zret hx hb hr (rfl) hlk hK hM hS dX8_gap_14 (⟨rfl, hMM⟩)

set_option maxHeartbeats 4000000 in
set_option maxRecDepth 100000 in
/-- untold -/
theorem k_X8_untold (l : Launch) (g : GG) (A : Nat → Prop) (M0 : MM) (Y : Nat) (σ : Nat → Int32) (ar : Nat → Nat → Int32) (ns : Nat → Int32) (hR : RepM g A M0 Y σ ar ns) (i : Nat) (hi : i < 6)  : Met l yX8_untold (Uw yX8_untold cX8_untold 2 (Option.some ClassFile.FieldType.int)) (rmD 1) (PreM [.ref (Y), .int (nI i)] g A M0) (PosI (fun r M1 => r = (σ (17 * i + 5) - σ (17 * i + 11)) ∧ M1 = M0) g A) 0 0 A := by
  refine mk_Met (own := RX8) rfl rfl (by decide) (Nat.le_of_ble_eq_true rfl) ?_
  intro p e s m below meth c ls aa Q haa hQ hx hb hr hlk hml hown hts hK hM hS hl hnm
  obtain ⟨M, hMM⟩ : ∃ M, M = M0 := ⟨_, rfl⟩
  rw [← hMM] at hM hR
  have ht : ∀ w ∈ lw_good, w.before _ s = true := fun w h => hts w (List.mem_cons_of_mem _ h)
  have hF : FrM Y M0 M := by rw [hMM]; exact FrM.rf
  have hl : lv_has ls 2 [(0, .ref (Y)), (1, .int (nI i))] := hl
  refine lv_aload_n hx hb dX8_untold_0 rfl (lv_at hl 0 rfl) ?_
  refine lv_iload_n hx hb dX8_untold_1 rfl (lv_at hl 1 rfl) ?_
  refine lv_iconst (v := nI 5) hx hb dX8_untold_2 (by first | rfl | decide) ?_
  refine m_callRI (val := σ (17 * i + 5)) (As := [.int (nI i), .int (nI 5)]) (rest := []) ⟨hx, hb, hml, hown, ht⟩ (k_X8_of l g A M Y σ ar ns hR i 5 (by omega)) (cwV 2 ht (gU uw_650 uw_652 uw_15 uw_42 uw_653) rfl rfl rfl (by decide +kernel) ⟨by decide, by decide⟩) hK hM hS (m_recv hK hM (hR.1 Y (by omega) (by omega)) hR.2.1 rfl) rfl hl.1 rfl (Nat.le_of_ble_eq_true rfl) dX8_untold_3 ⟨by decide, by decide⟩ (fun H locs hM hS => ?_)
  refine lv_aload_n hx hb dX8_untold_6 rfl (lv_at hl 0 rfl) ?_
  refine lv_iload_n hx hb dX8_untold_7 rfl (lv_at hl 1 rfl) ?_
  refine lv_bipush (v := nI 11) hx hb dX8_untold_8 (by first | rfl | decide) ?_
  refine m_callRI (val := σ (17 * i + 11)) (As := [.int (nI i), .int (nI 11)]) (rest := [.int (σ (17 * i + 5))]) ⟨hx, hb, hml, hown, ht⟩ (k_X8_of l g A M Y σ ar ns hR i 11 (by omega)) (cwV 2 ht (gU uw_650 uw_652 uw_15 uw_42 uw_653) rfl rfl rfl (by decide +kernel) ⟨by decide, by decide⟩) hK hM hS (m_recv hK hM (hR.1 Y (by omega) (by omega)) hR.2.1 rfl) rfl hl.1 rfl (Nat.le_of_ble_eq_true rfl) dX8_untold_10 ⟨by decide, by decide⟩ (fun H locs hM hS => ?_)
  refine lv_isub hx hb dX8_untold_13 ?_
  subst hQ
  exact m_zret hx hb hr (rfl) hlk hK hM hS dX8_untold_14 (⟨rfl, hMM⟩)

set_option maxHeartbeats 4000000 in
set_option maxRecDepth 100000 in
/-- putAside -/
theorem k_X8_putAside (l : Launch) (g : GG) (A : Nat → Prop) (M0 : MM) (Y : Nat) (σ : Nat → Int32) (ar : Nat → Nat → Int32) (ns : Nat → Int32) (hR : RepM g A M0 Y σ ar ns)  : Met l yX8_putAside (Uw yX8_putAside cX8_putAside 2 (Option.none : Option ClassFile.FieldType)) (rmD 0) (PreM [.ref (Y)] g A M0) (PosV (fun M1 => RepM g A M1 Y (σ) (va_up ar 1 (cpN 226 (ar 1) σ)) (ns) ∧ FrM Y M0 M1) g A) 0 0 A := by
  refine mk_Met (own := RX8) rfl rfl (by decide) (Nat.le_of_ble_eq_true rfl) ?_
  intro p e s m below meth c ls aa Q haa hQ hx hb hr hlk hml hown hts hK hM hS hl hnm
  obtain ⟨M, hMM⟩ : ∃ M, M = M0 := ⟨_, rfl⟩
  rw [← hMM] at hM hR
  have ht : ∀ w ∈ lw_good, w.before _ s = true := fun w h => hts w (List.mem_cons_of_mem _ h)
  have hF : FrM Y M0 M := by rw [hMM]; exact FrM.rf
  have hl : lv_has ls 2 [(0, .ref (Y))] := hl
  refine lv_iconst (v := nI 0) hx hb dX8_putAside_0 (by first | rfl | decide) ?_
  refine lv_istore_n (lv' := [(1, .int (nI 0)), (0, .ref (Y))]) hx hb dX8_putAside_1 rfl hl (by decide) rfl (fun ls hl => ?_)
  have loop_2 : ∀ (z_2 : Nat) (q : Nat) (M : MM) (H : Heap) (locs : List Loc) (ls : Array Slot), 226 - q < z_2 → q ≤ 226 → HD g A M H → RepM g A M Y σ (va_up ar 1 (cpN q (ar 1) σ)) ns → FrM Y M0 M → va_S A s.heap H locs → lv_has ls 2 [(1, .int (nI q)), (0, .ref (Y))] → W p l e (rmD 0) s m aa below meth c H locs 0 0 Q (F0 m 2 ls []) := by
    intro z_2
    induction z_2 with
    | zero => intro q M H locs ls hz hq; exact absurd hz (Nat.not_lt_zero _)
    | succ z_2 ih_2 =>
    intro q M H locs ls hz hq hM hR hF hS hl
    refine lv_iload_n hx hb dX8_putAside_2 rfl (lv_at hl 0 rfl) ?_
    refine lv_sipush (v := nI 226) hx hb dX8_putAside_3 (by first | rfl | decide) ?_
    refine lv_icmp_ge (tgt := 27) hx hb dX8_putAside_6 (by decide) (fun c_6 => ?_) (fun c_6 => ?_)
    · have hq6 : q = 226 := Nat.le_antisymm hq (nI_le_of (by omega) (by decide) c_6)
      subst hq6
      subst hQ
      exact m_vret hx hb hr hlk hK hM hS dX8_putAside_27 (⟨hR, hF⟩)
    · have hq6 : q < 226 := nI_lt_of (by omega) (by decide) c_6
      refine lv_aload_n hx hb dX8_putAside_9 rfl (lv_at hl 1 rfl) ?_
      refine rm_getA1 hx hb ht ui_X8 hown hK hM hR (ht _ uw_595) dX8_putAside_10 ?_
      refine lv_iload_n hx hb dX8_putAside_13 rfl (lv_at hl 0 rfl) ?_
      refine lv_aload_n hx hb dX8_putAside_14 rfl (lv_at hl 1 rfl) ?_
      refine rm_getS hx hb ht ui_X8 hown hK hM hR (ht _ uw_594) dX8_putAside_15 ?_
      refine lv_iload_n hx hb dX8_putAside_18 rfl (lv_at hl 0 rfl) ?_
      refine rm_sald hx hb hK hM hR (i := q) (hq6) dX8_putAside_19 ?_
      refine rm_aast hx hb hK hM hS hR hF 1 (by decide) (by decide) (by decide) (i := q) (hq6) dX8_putAside_20 (fun M H locs hM hR hF hS => ?_)
      refine lv_iinc (v := nI (q + 1)) (lv' := [(1, .int (nI (q + 1))), (0, .ref (Y))]) hx hb dX8_putAside_21 hl (k := 0) rfl (nI_1 _) (by decide) rfl (fun ls hl => ?_)
      refine lv_goto (tgt := 2) hx hb dX8_putAside_24 (by decide) ?_
      exact ih_2 (q + 1) _ _ _ _ (by omega) (by omega) hM (hR.eqv rfl (by rw [cpN_up, va_upup, va_up_self]) rfl) hF hS (lv_sub hl [0, 1] rfl)
  exact loop_2 _ 0 _ _ _ _ (Nat.lt_succ_self _) (by omega) hM (hR.eqv rfl (by rw [cpN_0]; exact funext (fun z => va_upself rfl z)) rfl) hF hS (lv_sub hl [0, 1] rfl)

set_option maxHeartbeats 4000000 in
set_option maxRecDepth 100000 in
/-- putBack -/
theorem k_X8_putBack (l : Launch) (g : GG) (A : Nat → Prop) (M0 : MM) (Y : Nat) (σ : Nat → Int32) (ar : Nat → Nat → Int32) (ns : Nat → Int32) (hR : RepM g A M0 Y σ ar ns)  : Met l yX8_putBack (Uw yX8_putBack cX8_putBack 2 (Option.none : Option ClassFile.FieldType)) (rmD 0) (PreM [.ref (Y)] g A M0) (PosV (fun M1 => RepM g A M1 Y (cpN 226 σ (ar 1)) (ar) (ns) ∧ FrM Y M0 M1) g A) 0 0 A := by
  refine mk_Met (own := RX8) rfl rfl (by decide) (Nat.le_of_ble_eq_true rfl) ?_
  intro p e s m below meth c ls aa Q haa hQ hx hb hr hlk hml hown hts hK hM hS hl hnm
  obtain ⟨M, hMM⟩ : ∃ M, M = M0 := ⟨_, rfl⟩
  rw [← hMM] at hM hR
  have ht : ∀ w ∈ lw_good, w.before _ s = true := fun w h => hts w (List.mem_cons_of_mem _ h)
  have hF : FrM Y M0 M := by rw [hMM]; exact FrM.rf
  have hl : lv_has ls 2 [(0, .ref (Y))] := hl
  refine lv_iconst (v := nI 0) hx hb dX8_putBack_0 (by first | rfl | decide) ?_
  refine lv_istore_n (lv' := [(1, .int (nI 0)), (0, .ref (Y))]) hx hb dX8_putBack_1 rfl hl (by decide) rfl (fun ls hl => ?_)
  have loop_2 : ∀ (z_2 : Nat) (q : Nat) (M : MM) (H : Heap) (locs : List Loc) (ls : Array Slot), 226 - q < z_2 → q ≤ 226 → HD g A M H → RepM g A M Y (cpN q σ (ar 1)) ar ns → FrM Y M0 M → va_S A s.heap H locs → lv_has ls 2 [(1, .int (nI q)), (0, .ref (Y))] → W p l e (rmD 0) s m aa below meth c H locs 0 0 Q (F0 m 2 ls []) := by
    intro z_2
    induction z_2 with
    | zero => intro q M H locs ls hz hq; exact absurd hz (Nat.not_lt_zero _)
    | succ z_2 ih_2 =>
    intro q M H locs ls hz hq hM hR hF hS hl
    refine lv_iload_n hx hb dX8_putBack_2 rfl (lv_at hl 0 rfl) ?_
    refine lv_sipush (v := nI 226) hx hb dX8_putBack_3 (by first | rfl | decide) ?_
    refine lv_icmp_ge (tgt := 27) hx hb dX8_putBack_6 (by decide) (fun c_6 => ?_) (fun c_6 => ?_)
    · have hq6 : q = 226 := Nat.le_antisymm hq (nI_le_of (by omega) (by decide) c_6)
      subst hq6
      subst hQ
      exact m_vret hx hb hr hlk hK hM hS dX8_putBack_27 (⟨hR, hF⟩)
    · have hq6 : q < 226 := nI_lt_of (by omega) (by decide) c_6
      refine lv_aload_n hx hb dX8_putBack_9 rfl (lv_at hl 1 rfl) ?_
      refine rm_getS hx hb ht ui_X8 hown hK hM hR (ht _ uw_594) dX8_putBack_10 ?_
      refine lv_iload_n hx hb dX8_putBack_13 rfl (lv_at hl 0 rfl) ?_
      refine lv_aload_n hx hb dX8_putBack_14 rfl (lv_at hl 1 rfl) ?_
      refine rm_getA1 hx hb ht ui_X8 hown hK hM hR (ht _ uw_595) dX8_putBack_15 ?_
      refine lv_iload_n hx hb dX8_putBack_18 rfl (lv_at hl 0 rfl) ?_
      refine rm_aald hx hb hK hM hR 1 (by decide) (by decide) (by decide) (i := q) (hq6) dX8_putBack_19 ?_
      refine rm_sast hx hb hK hM hS hR hF (i := q) (hq6) dX8_putBack_20 (fun M H locs hM hR hF hS => ?_)
      refine lv_iinc (v := nI (q + 1)) (lv' := [(1, .int (nI (q + 1))), (0, .ref (Y))]) hx hb dX8_putBack_21 hl (k := 0) rfl (nI_1 _) (by decide) rfl (fun ls hl => ?_)
      refine lv_goto (tgt := 2) hx hb dX8_putBack_24 (by decide) ?_
      exact ih_2 (q + 1) _ _ _ _ (by omega) (by omega) hM (hR.eqv (cpN_up _ _ _) rfl rfl) hF hS (lv_sub hl [0, 1] rfl)
  exact loop_2 _ 0 _ _ _ _ (Nat.lt_succ_self _) (by omega) hM (hR.eqv (cpN_0 _ _) rfl rfl) hF hS (lv_sub hl [0, 1] rfl)

set_option maxHeartbeats 4000000 in
set_option maxRecDepth 100000 in
/-- save0 -/
theorem k_X8_save0 (l : Launch) (g : GG) (A : Nat → Prop) (M0 : MM) (Y : Nat) (σ : Nat → Int32) (ar : Nat → Nat → Int32) (ns : Nat → Int32) (hR : RepM g A M0 Y σ ar ns) (k : Nat) (hk : k ≤ 6) (hkn : ns 0 = nI k)  : Met l yX8_save0 (Uw yX8_save0 cX8_save0 2 (Option.none : Option ClassFile.FieldType)) (rmD 0) (PreM [.ref (Y)] g A M0) (PosV (fun M1 => RepM g A M1 Y (σ) (va_up ar 2 (savB k (ar 2) σ)) (va_up ns 0 (nI (recK k))) ∧ FrM Y M0 M1) g A) 0 0 A := by
  refine mk_Met (own := RX8) rfl rfl (by decide) (Nat.le_of_ble_eq_true rfl) ?_
  intro p e s m below meth c ls aa Q haa hQ hx hb hr hlk hml hown hts hK hM hS hl hnm
  obtain ⟨M, hMM⟩ : ∃ M, M = M0 := ⟨_, rfl⟩
  rw [← hMM] at hM hR
  have ht : ∀ w ∈ lw_good, w.before _ s = true := fun w h => hts w (List.mem_cons_of_mem _ h)
  have hF : FrM Y M0 M := by rw [hMM]; exact FrM.rf
  have hl : lv_has ls 2 [(0, .ref (Y))] := hl
  by_cases hk6 : k = 6
  · have hkn6 : ns 0 = nI 6 := by rw [hkn, hk6]
    refine lv_aload_n hx hb dX8_save0_0 rfl (lv_at hl 0 rfl) ?_
    refine rm_getN0 hx hb ht ui_X8 hown hK hM hR (ht _ uw_597) dX8_save0_1 ?_
    rw [hkn6]
    refine lv_bipush (v := nI 6) hx hb dX8_save0_4 (by first | rfl | decide) ?_
    refine lv_icmp_ne (tgt := 50) hx hb dX8_save0_6 (by decide) (fun c_6 => absurd (rfl) c_6) (fun c_6 => ?_)
    refine lv_iconst (v := nI 0) hx hb dX8_save0_9 (by first | rfl | decide) ?_
    refine lv_istore_n (lv' := [(1, .int (nI 0)), (0, .ref (Y))]) hx hb dX8_save0_10 rfl hl (by decide) rfl (fun ls hl => ?_)
    have loop_11 : ∀ (z_11 : Nat) (q : Nat) (M : MM) (H : Heap) (locs : List Loc) (ls : Array Slot), 1130 - q < z_11 → q ≤ 1130 → HD g A M H → RepM g A M Y σ (va_up ar 2 (shN q (ar 2))) ns → FrM Y M0 M → va_S A s.heap H locs → lv_has ls 2 [(1, .int (nI q)), (0, .ref (Y))] → W p l e (rmD 0) s m aa below meth c H locs 0 0 Q (F0 m 11 ls []) := by
      intro z_11
      induction z_11 with
      | zero => intro q M H locs ls hz hq; exact absurd hz (Nat.not_lt_zero _)
      | succ z_11 ih_11 =>
      intro q M H locs ls hz hq hM hR hF hS hl
      refine lv_iload_n hx hb dX8_save0_11 rfl (lv_at hl 0 rfl) ?_
      refine lv_sipush (v := nI 1130) hx hb dX8_save0_12 (by first | rfl | decide) ?_
      refine lv_icmp_ge (tgt := 40) hx hb dX8_save0_15 (by decide) (fun c_15 => ?_) (fun c_15 => ?_)
      · have hq6 : q = 1130 := Nat.le_antisymm hq (nI_le_of (by omega) (by decide) c_15)
        subst hq6
        refine lv_aload_n hx hb dX8_save0_40 rfl (lv_at hl 1 rfl) ?_
        refine lv_dup hx hb dX8_save0_41 rfl ?_
        refine rm_getN0 hx hb ht ui_X8 hown hK hM hR (ht _ uw_597) dX8_save0_42 ?_
        rw [hkn6]
        refine lv_iconst (v := nI 1) hx hb dX8_save0_45 (by first | rfl | decide) ?_
        refine lv_isub hx hb dX8_save0_46 ?_
        rw [pk_sub (a := 6) (b := 1) (show 1 ≤ 6 by decide)]
        refine rm_putN0 hx hb ht ui_X8 hown hK hM hS hR hF (ht _ uw_597) dX8_save0_47 (fun M H locs hM hR hF hS => ?_)
        refine lv_iconst (v := nI 0) hx hb dX8_save0_50 (by first | rfl | decide) ?_
        refine lv_istore_n (lv' := [(1, .int (nI 0)), (0, .ref (Y))]) hx hb dX8_save0_51 rfl hl (by decide) rfl (fun ls hl => ?_)
        have loop_52 : ∀ (z_52 : Nat) (q : Nat) (j : Nat) (b2 : Nat → Int32) (ns1 : Nat → Int32) (M : MM) (H : Heap) (locs : List Loc) (ls : Array Slot), 226 - q < z_52 → q ≤ 226 → j < 6 → ns1 0 = nI j → nI (j + 1) = nI (recK k) → wrN j 226 b2 σ = savB k (ar 2) σ → (∀ x, va_up ns1 0 x = va_up ns 0 x) → HD g A M H → RepM g A M Y σ (va_up ar 2 (wrN j q b2 σ)) ns1 → FrM Y M0 M → va_S A s.heap H locs → lv_has ls 2 [(1, .int (nI q)), (0, .ref (Y))] → W p l e (rmD 0) s m aa below meth c H locs 0 0 Q (F0 m 52 ls []) := by
          intro z_52
          induction z_52 with
          | zero => intro q j b2 ns1 M H locs ls hz hq hj hj1 hj2 hj3 hj4; exact absurd hz (Nat.not_lt_zero _)
          | succ z_52 ih_52 =>
          intro q j b2 ns1 M H locs ls hz hq hj hj1 hj2 hj3 hj4 hM hR hF hS hl
          refine lv_iload_n hx hb dX8_save0_52 rfl (lv_at hl 0 rfl) ?_
          refine lv_sipush (v := nI 226) hx hb dX8_save0_53 (by first | rfl | decide) ?_
          refine lv_icmp_ge (tgt := 86) hx hb dX8_save0_56 (by decide) (fun c_56 => ?_) (fun c_56 => ?_)
          · have hq6 : q = 226 := Nat.le_antisymm hq (nI_le_of (by omega) (by decide) c_56)
            subst hq6
            refine lv_aload_n hx hb dX8_save0_86 rfl (lv_at hl 1 rfl) ?_
            refine lv_dup hx hb dX8_save0_87 rfl ?_
            refine rm_getN0 hx hb ht ui_X8 hown hK hM hR (ht _ uw_597) dX8_save0_88 ?_
            rw [hj1]
            refine lv_iconst (v := nI 1) hx hb dX8_save0_91 (by first | rfl | decide) ?_
            refine lv_iadd hx hb dX8_save0_92 ?_
            rw [nI_add (j) (1)]
            refine rm_putN0 hx hb ht ui_X8 hown hK hM hS hR hF (ht _ uw_597) dX8_save0_93 (fun M H locs hM hR hF hS => ?_)
            subst hQ
            exact m_vret hx hb hr hlk hK hM hS dX8_save0_96 (⟨hR.eqv rfl (by rw [hj3]) (by rw [← hj4, ← hj2]), hF⟩)
          · have hq6 : q < 226 := nI_lt_of (by omega) (by decide) c_56
            refine lv_aload_n hx hb dX8_save0_59 rfl (lv_at hl 1 rfl) ?_
            refine rm_getA2 hx hb ht ui_X8 hown hK hM hR (ht _ uw_596) dX8_save0_60 ?_
            refine lv_sipush (v := nI 226) hx hb dX8_save0_63 (by first | rfl | decide) ?_
            refine lv_aload_n hx hb dX8_save0_66 rfl (lv_at hl 1 rfl) ?_
            refine rm_getN0 hx hb ht ui_X8 hown hK hM hR (ht _ uw_597) dX8_save0_67 ?_
            rw [hj1]
            refine lv_imul hx hb dX8_save0_70 ?_
            rw [pk_mul (226) (j)]
            refine lv_iload_n hx hb dX8_save0_71 rfl (lv_at hl 0 rfl) ?_
            refine lv_iadd hx hb dX8_save0_72 ?_
            rw [nI_add ((226 * j)) (q)]
            refine lv_aload_n hx hb dX8_save0_73 rfl (lv_at hl 1 rfl) ?_
            refine rm_getS hx hb ht ui_X8 hown hK hM hR (ht _ uw_594) dX8_save0_74 ?_
            refine lv_iload_n hx hb dX8_save0_77 rfl (lv_at hl 0 rfl) ?_
            refine rm_sald hx hb hK hM hR (i := q) (hq6) dX8_save0_78 ?_
            refine rm_aast hx hb hK hM hS hR hF 2 (by decide) (by decide) (by decide) (i := ((226 * j) + q)) (show 226 * j + q < 1356 by omega) dX8_save0_79 (fun M H locs hM hR hF hS => ?_)
            refine lv_iinc (v := nI (q + 1)) (lv' := [(1, .int (nI (q + 1))), (0, .ref (Y))]) hx hb dX8_save0_80 hl (k := 0) rfl (nI_1 _) (by decide) rfl (fun ls hl => ?_)
            refine lv_goto (tgt := 52) hx hb dX8_save0_83 (by decide) ?_
            exact ih_52 (q + 1) j b2 ns1 _ _ _ _ (by omega) (by omega) hj hj1 hj2 hj3 hj4 hM (hR.eqv rfl (by rw [wrN_up, va_upup, va_up_self]) rfl) hF hS (lv_sub hl [0, 1] rfl)
        have hkk : True := trivial
        exact loop_52 _ 0 5 (shN 1130 (ar 2)) _ _ _ _ _ (Nat.lt_succ_self _) (by omega) (by decide) rfl (by rw [hk6]; rfl) (by rw [hk6]; exact savB_6 _ _) (fun x => va_upup _ _ _ _) hM (hR.eqv rfl (by rw [wrN_0]) rfl) hF hS (lv_sub hl [0, 1] rfl)
      · have hq6 : q < 1130 := nI_lt_of (by omega) (by decide) c_15
        refine lv_aload_n hx hb dX8_save0_18 rfl (lv_at hl 1 rfl) ?_
        refine rm_getA2 hx hb ht ui_X8 hown hK hM hR (ht _ uw_596) dX8_save0_19 ?_
        refine lv_iload_n hx hb dX8_save0_22 rfl (lv_at hl 0 rfl) ?_
        refine lv_aload_n hx hb dX8_save0_23 rfl (lv_at hl 1 rfl) ?_
        refine rm_getA2 hx hb ht ui_X8 hown hK hM hR (ht _ uw_596) dX8_save0_24 ?_
        refine lv_sipush (v := nI 226) hx hb dX8_save0_27 (by first | rfl | decide) ?_
        refine lv_iload_n hx hb dX8_save0_30 rfl (lv_at hl 0 rfl) ?_
        refine lv_iadd hx hb dX8_save0_31 ?_
        rw [nI_add (226) (q)]
        refine rm_aald hx hb hK hM hR 2 (by decide) (by decide) (by decide) (i := (226 + q)) (show 226 + q < 1356 by omega) dX8_save0_32 ?_
        refine rm_aast hx hb hK hM hS hR hF 2 (by decide) (by decide) (by decide) (i := q) (show q < 1356 by omega) dX8_save0_33 (fun M H locs hM hR hF hS => ?_)
        refine lv_iinc (v := nI (q + 1)) (lv' := [(1, .int (nI (q + 1))), (0, .ref (Y))]) hx hb dX8_save0_34 hl (k := 0) rfl (nI_1 _) (by decide) rfl (fun ls hl => ?_)
        refine lv_goto (tgt := 11) hx hb dX8_save0_37 (by decide) ?_
        exact ih_11 (q + 1) _ _ _ _ (by omega) (by omega) hM (hR.eqv rfl (by rw [shN_up, va_upup, va_up_self]) rfl) hF hS (lv_sub hl [0, 1] rfl)
    exact loop_11 _ 0 _ _ _ _ (Nat.lt_succ_self _) (by omega) hM (hR.eqv rfl (by rw [shN_0]; exact funext (fun z => va_upself rfl z)) rfl) hF hS (lv_sub hl [0, 1] rfl)
  · refine lv_aload_n hx hb dX8_save0_0 rfl (lv_at hl 0 rfl) ?_
    refine rm_getN0 hx hb ht ui_X8 hown hK hM hR (ht _ uw_597) dX8_save0_1 ?_
    rw [hkn]
    refine lv_bipush (v := nI 6) hx hb dX8_save0_4 (by first | rfl | decide) ?_
    refine lv_icmp_ne (tgt := 50) hx hb dX8_save0_6 (by decide) (fun c_6 => ?_) (fun c_6 => absurd c_6 (fun z => hk6 ((nI_eq (by omega) (by decide)).mp z)))
    refine lv_iconst (v := nI 0) hx hb dX8_save0_50 (by first | rfl | decide) ?_
    refine lv_istore_n (lv' := [(1, .int (nI 0)), (0, .ref (Y))]) hx hb dX8_save0_51 rfl hl (by decide) rfl (fun ls hl => ?_)
    have loop_52 : ∀ (z_52 : Nat) (q : Nat) (j : Nat) (b2 : Nat → Int32) (ns1 : Nat → Int32) (M : MM) (H : Heap) (locs : List Loc) (ls : Array Slot), 226 - q < z_52 → q ≤ 226 → j < 6 → ns1 0 = nI j → nI (j + 1) = nI (recK k) → wrN j 226 b2 σ = savB k (ar 2) σ → (∀ x, va_up ns1 0 x = va_up ns 0 x) → HD g A M H → RepM g A M Y σ (va_up ar 2 (wrN j q b2 σ)) ns1 → FrM Y M0 M → va_S A s.heap H locs → lv_has ls 2 [(1, .int (nI q)), (0, .ref (Y))] → W p l e (rmD 0) s m aa below meth c H locs 0 0 Q (F0 m 52 ls []) := by
      intro z_52
      induction z_52 with
      | zero => intro q j b2 ns1 M H locs ls hz hq hj hj1 hj2 hj3 hj4; exact absurd hz (Nat.not_lt_zero _)
      | succ z_52 ih_52 =>
      intro q j b2 ns1 M H locs ls hz hq hj hj1 hj2 hj3 hj4 hM hR hF hS hl
      refine lv_iload_n hx hb dX8_save0_52 rfl (lv_at hl 0 rfl) ?_
      refine lv_sipush (v := nI 226) hx hb dX8_save0_53 (by first | rfl | decide) ?_
      refine lv_icmp_ge (tgt := 86) hx hb dX8_save0_56 (by decide) (fun c_56 => ?_) (fun c_56 => ?_)
      · have hq6 : q = 226 := Nat.le_antisymm hq (nI_le_of (by omega) (by decide) c_56)
        subst hq6
        refine lv_aload_n hx hb dX8_save0_86 rfl (lv_at hl 1 rfl) ?_
        refine lv_dup hx hb dX8_save0_87 rfl ?_
        refine rm_getN0 hx hb ht ui_X8 hown hK hM hR (ht _ uw_597) dX8_save0_88 ?_
        rw [hj1]
        refine lv_iconst (v := nI 1) hx hb dX8_save0_91 (by first | rfl | decide) ?_
        refine lv_iadd hx hb dX8_save0_92 ?_
        rw [nI_add (j) (1)]
        refine rm_putN0 hx hb ht ui_X8 hown hK hM hS hR hF (ht _ uw_597) dX8_save0_93 (fun M H locs hM hR hF hS => ?_)
        subst hQ
        exact m_vret hx hb hr hlk hK hM hS dX8_save0_96 (⟨hR.eqv rfl (by rw [hj3]) (by rw [← hj4, ← hj2]), hF⟩)
      · have hq6 : q < 226 := nI_lt_of (by omega) (by decide) c_56
        refine lv_aload_n hx hb dX8_save0_59 rfl (lv_at hl 1 rfl) ?_
        refine rm_getA2 hx hb ht ui_X8 hown hK hM hR (ht _ uw_596) dX8_save0_60 ?_
        refine lv_sipush (v := nI 226) hx hb dX8_save0_63 (by first | rfl | decide) ?_
        refine lv_aload_n hx hb dX8_save0_66 rfl (lv_at hl 1 rfl) ?_
        refine rm_getN0 hx hb ht ui_X8 hown hK hM hR (ht _ uw_597) dX8_save0_67 ?_
        rw [hj1]
        refine lv_imul hx hb dX8_save0_70 ?_
        rw [pk_mul (226) (j)]
        refine lv_iload_n hx hb dX8_save0_71 rfl (lv_at hl 0 rfl) ?_
        refine lv_iadd hx hb dX8_save0_72 ?_
        rw [nI_add ((226 * j)) (q)]
        refine lv_aload_n hx hb dX8_save0_73 rfl (lv_at hl 1 rfl) ?_
        refine rm_getS hx hb ht ui_X8 hown hK hM hR (ht _ uw_594) dX8_save0_74 ?_
        refine lv_iload_n hx hb dX8_save0_77 rfl (lv_at hl 0 rfl) ?_
        refine rm_sald hx hb hK hM hR (i := q) (hq6) dX8_save0_78 ?_
        refine rm_aast hx hb hK hM hS hR hF 2 (by decide) (by decide) (by decide) (i := ((226 * j) + q)) (show 226 * j + q < 1356 by omega) dX8_save0_79 (fun M H locs hM hR hF hS => ?_)
        refine lv_iinc (v := nI (q + 1)) (lv' := [(1, .int (nI (q + 1))), (0, .ref (Y))]) hx hb dX8_save0_80 hl (k := 0) rfl (nI_1 _) (by decide) rfl (fun ls hl => ?_)
        refine lv_goto (tgt := 52) hx hb dX8_save0_83 (by decide) ?_
        exact ih_52 (q + 1) j b2 ns1 _ _ _ _ (by omega) (by omega) hj hj1 hj2 hj3 hj4 hM (hR.eqv rfl (by rw [wrN_up, va_upup, va_up_self]) rfl) hF hS (lv_sub hl [0, 1] rfl)
    exact loop_52 _ 0 k (ar 2) ns _ _ _ _ (Nat.lt_succ_self _) (by omega) (by omega) hkn (by unfold recK; rw [if_neg hk6]) (savB_n hk6 _ _) (fun x => rfl) hM (hR.eqv rfl (by rw [wrN_0]; exact funext (fun z => va_upself rfl z)) rfl) hF hS (lv_sub hl [0, 1] rfl)

set_option maxHeartbeats 4000000 in
set_option maxRecDepth 100000 in
/-- drop -/
theorem k_X8_drop (l : Launch) (g : GG) (A : Nat → Prop) (M0 : MM) (Y : Nat) (σ : Nat → Int32) (ar : Nat → Nat → Int32) (ns : Nat → Int32) (hR : RepM g A M0 Y σ ar ns) (k n : Nat) (hn : σ 105 = nI n) (hn20 : n ≤ 20) (hk : k < n)  : Met l yX8_drop (Uw yX8_drop cX8_drop 3 (Option.none : Option ClassFile.FieldType)) (rmD 0) (PreM [.ref (Y), .int (nI k)] g A M0) (PosV (fun M1 => RepM g A M1 Y (drM k n σ) (ar) (ns) ∧ FrM Y M0 M1) g A) 0 0 A := by
  refine mk_Met (own := RX8) rfl rfl (by decide) (Nat.le_of_ble_eq_true rfl) ?_
  intro p e s m below meth c ls aa Q haa hQ hx hb hr hlk hml hown hts hK hM hS hl hnm
  obtain ⟨M, hMM⟩ : ∃ M, M = M0 := ⟨_, rfl⟩
  rw [← hMM] at hM hR
  have ht : ∀ w ∈ lw_good, w.before _ s = true := fun w h => hts w (List.mem_cons_of_mem _ h)
  have hF : FrM Y M0 M := by rw [hMM]; exact FrM.rf
  have hl : lv_has ls 3 [(0, .ref (Y)), (1, .int (nI k))] := hl
  refine lv_aload_n hx hb dX8_drop_0 rfl (lv_at hl 0 rfl) ?_
  refine rm_getS hx hb ht ui_X8 hown hK hM hR (ht _ uw_594) dX8_drop_1 ?_
  refine lv_bipush (v := nI 105) hx hb dX8_drop_4 (by first | rfl | decide) ?_
  refine lv_dup2_11 hx hb dX8_drop_6 rfl rfl ?_
  refine rm_sald hx hb hK hM hR (i := 105) (by omega) dX8_drop_7 ?_
  rw [hn]
  refine lv_iconst (v := nI 1) hx hb dX8_drop_8 (by first | rfl | decide) ?_
  refine lv_isub hx hb dX8_drop_9 ?_
  rw [pk_sub (a := n) (b := 1) (show 1 ≤ n by omega)]
  refine rm_sast hx hb hK hM hS hR hF (i := 105) (by omega) dX8_drop_10 (fun M H locs hM hR hF hS => ?_)
  refine lv_bipush (v := nI 106) hx hb dX8_drop_11 (by first | rfl | decide) ?_
  refine lv_bipush (v := nI 6) hx hb dX8_drop_13 (by first | rfl | decide) ?_
  refine lv_iload_n hx hb dX8_drop_15 rfl (lv_at hl 1 rfl) ?_
  refine lv_imul hx hb dX8_drop_16 ?_
  rw [pk_mul (6) (k)]
  refine lv_iadd hx hb dX8_drop_17 ?_
  rw [nI_add (106) ((6 * k))]
  refine lv_istore_n (lv' := [(2, .int (nI (106 + (6 * k)))), (0, .ref (Y)), (1, .int (nI k))]) hx hb dX8_drop_18 rfl hl (by decide) rfl (fun ls hl => ?_)
  have loop_19 : ∀ (z_19 : Nat) (i : Nat) (M : MM) (H : Heap) (locs : List Loc) (ls : Array Slot), 106 + 6 * (n - 1) - i < z_19 → 106 + 6 * k ≤ i → i ≤ 106 + 6 * (n - 1) → HD g A M H → RepM g A M Y (drA k i n σ) ar ns → FrM Y M0 M → va_S A s.heap H locs → lv_has ls 3 [(2, .int (nI i)), (0, .ref (Y)), (1, .int (nI k))] → W p l e (rmD 0) s m aa below meth c H locs 0 0 Q (F0 m 19 ls []) := by
    intro z_19
    induction z_19 with
    | zero => intro i M H locs ls hz hi1 hi2; exact absurd hz (Nat.not_lt_zero _)
    | succ z_19 ih_19 =>
    intro i M H locs ls hz hi1 hi2 hM hR hF hS hl
    refine lv_iload_n hx hb dX8_drop_19 rfl (lv_at hl 0 rfl) ?_
    refine lv_bipush (v := nI 106) hx hb dX8_drop_20 (by first | rfl | decide) ?_
    refine lv_bipush (v := nI 6) hx hb dX8_drop_22 (by first | rfl | decide) ?_
    refine lv_aload_n hx hb dX8_drop_24 rfl (lv_at hl 1 rfl) ?_
    refine rm_getS hx hb ht ui_X8 hown hK hM hR (ht _ uw_594) dX8_drop_25 ?_
    refine lv_bipush (v := nI 105) hx hb dX8_drop_28 (by first | rfl | decide) ?_
    refine rm_sald hx hb hK hM hR (i := 105) (by omega) dX8_drop_30 ?_
    rw [show (drA k i n σ) 105 = nI (n - 1) from dr_105a hk hi1 hi2]
    refine lv_imul hx hb dX8_drop_31 ?_
    rw [pk_mul (6) ((n - 1))]
    refine lv_iadd hx hb dX8_drop_32 ?_
    rw [nI_add (106) ((6 * (n - 1)))]
    refine lv_icmp_ge (tgt := 57) hx hb dX8_drop_33 (by decide) (fun c_33 => ?_) (fun c_33 => ?_)
    · have hin : i = 106 + 6 * (n - 1) := Nat.le_antisymm hi2 (nI_le_of (by omega) (by omega) c_33)
      subst hin
      refine lv_iconst (v := nI 0) hx hb dX8_drop_57 (by first | rfl | decide) ?_
      refine lv_istore_n (lv' := [(2, .int (nI 0)), (0, .ref (Y)), (1, .int (nI k))]) hx hb dX8_drop_58 rfl hl (by decide) rfl (fun ls hl => ?_)
      have loop_59 : ∀ (z_59 : Nat) (q : Nat) (M : MM) (H : Heap) (locs : List Loc) (ls : Array Slot), 6 - q < z_59 → q ≤ 6 → HD g A M H → RepM g A M Y (drB k q n σ) ar ns → FrM Y M0 M → va_S A s.heap H locs → lv_has ls 3 [(2, .int (nI q)), (0, .ref (Y)), (1, .int (nI k))] → W p l e (rmD 0) s m aa below meth c H locs 0 0 Q (F0 m 59 ls []) := by
        intro z_59
        induction z_59 with
        | zero => intro q M H locs ls hz hq; exact absurd hz (Nat.not_lt_zero _)
        | succ z_59 ih_59 =>
        intro q M H locs ls hz hq hM hR hF hS hl
        refine lv_iload_n hx hb dX8_drop_59 rfl (lv_at hl 0 rfl) ?_
        refine lv_bipush (v := nI 6) hx hb dX8_drop_60 (by first | rfl | decide) ?_
        refine lv_icmp_ge (tgt := 92) hx hb dX8_drop_62 (by decide) (fun c_62 => ?_) (fun c_62 => ?_)
        · have hq6 : q = 6 := Nat.le_antisymm hq (nI_le_of (by omega) (by decide) c_62)
          subst hq6
          subst hQ
          exact m_vret hx hb hr hlk hK hM hS dX8_drop_92 (⟨hR, hF⟩)
        · have hq6 : q < 6 := nI_lt_of (by omega) (by decide) c_62
          refine lv_aload_n hx hb dX8_drop_65 rfl (lv_at hl 1 rfl) ?_
          refine rm_getS hx hb ht ui_X8 hown hK hM hR (ht _ uw_594) dX8_drop_66 ?_
          refine lv_bipush (v := nI 106) hx hb dX8_drop_69 (by first | rfl | decide) ?_
          refine lv_bipush (v := nI 6) hx hb dX8_drop_71 (by first | rfl | decide) ?_
          refine lv_aload_n hx hb dX8_drop_73 rfl (lv_at hl 1 rfl) ?_
          refine rm_getS hx hb ht ui_X8 hown hK hM hR (ht _ uw_594) dX8_drop_74 ?_
          refine lv_bipush (v := nI 105) hx hb dX8_drop_77 (by first | rfl | decide) ?_
          refine rm_sald hx hb hK hM hR (i := 105) (by omega) dX8_drop_79 ?_
          rw [show (drB k q n σ) 105 = nI (n - 1) from dr_105b hk (by omega)]
          refine lv_imul hx hb dX8_drop_80 ?_
          rw [pk_mul (6) ((n - 1))]
          refine lv_iadd hx hb dX8_drop_81 ?_
          rw [nI_add (106) ((6 * (n - 1)))]
          refine lv_iload_n hx hb dX8_drop_82 rfl (lv_at hl 0 rfl) ?_
          refine lv_iadd hx hb dX8_drop_83 ?_
          rw [nI_add ((106 + (6 * (n - 1)))) (q)]
          refine lv_iconst (v := nI 0) hx hb dX8_drop_84 (by first | rfl | decide) ?_
          refine rm_sast hx hb hK hM hS hR hF (i := ((106 + (6 * (n - 1))) + q)) (by omega) dX8_drop_85 (fun M H locs hM hR hF hS => ?_)
          refine lv_iinc (v := nI (q + 1)) (lv' := [(2, .int (nI (q + 1))), (0, .ref (Y)), (1, .int (nI k))]) hx hb dX8_drop_86 hl (k := 0) rfl (nI_1 _) (by decide) rfl (fun ls hl => ?_)
          refine lv_goto (tgt := 59) hx hb dX8_drop_89 (by decide) ?_
          exact ih_59 (q + 1) _ _ _ _ (by omega) (by omega) hM (hR.eqv (drB_up _ _ _ _) rfl rfl) hF hS (lv_sub hl [0, 1, 2] rfl)
      exact loop_59 _ 0 _ _ _ _ (Nat.lt_succ_self _) (by omega) hM (hR.eqv (drB_0 _ _ _) rfl rfl) hF hS (lv_sub hl [0, 1, 2] rfl)
    · have hin : i < 106 + 6 * (n - 1) := nI_lt_of (by omega) (by omega) c_33
      refine lv_aload_n hx hb dX8_drop_36 rfl (lv_at hl 1 rfl) ?_
      refine rm_getS hx hb ht ui_X8 hown hK hM hR (ht _ uw_594) dX8_drop_37 ?_
      refine lv_iload_n hx hb dX8_drop_40 rfl (lv_at hl 0 rfl) ?_
      refine lv_aload_n hx hb dX8_drop_41 rfl (lv_at hl 1 rfl) ?_
      refine rm_getS hx hb ht ui_X8 hown hK hM hR (ht _ uw_594) dX8_drop_42 ?_
      refine lv_iload_n hx hb dX8_drop_45 rfl (lv_at hl 0 rfl) ?_
      refine lv_bipush (v := nI 6) hx hb dX8_drop_46 (by first | rfl | decide) ?_
      refine lv_iadd hx hb dX8_drop_48 ?_
      rw [nI_add (i) (6)]
      refine rm_sald hx hb hK hM hR (i := (i + 6)) (by omega) dX8_drop_49 ?_
      refine rm_sast hx hb hK hM hS hR hF (i := i) (by omega) dX8_drop_50 (fun M H locs hM hR hF hS => ?_)
      refine lv_iinc (v := nI (i + 1)) (lv' := [(2, .int (nI (i + 1))), (0, .ref (Y)), (1, .int (nI k))]) hx hb dX8_drop_51 hl (k := 0) rfl (nI_1 _) (by decide) rfl (fun ls hl => ?_)
      refine lv_goto (tgt := 19) hx hb dX8_drop_54 (by decide) ?_
      exact ih_19 (i + 1) _ _ _ _ (by omega) (by omega) (by omega) hM (hR.eqv (drA_up hi1 (by omega)) rfl rfl) hF hS (lv_sub hl [0, 1, 2] rfl)
  exact loop_19 _ (106 + 6 * k) _ _ _ _ (Nat.lt_succ_self _) (Nat.le_refl _) (by omega) hM (hR.eqv (drA_0 _ _ _) rfl rfl) hF hS (lv_sub hl [0, 1, 2] rfl)
