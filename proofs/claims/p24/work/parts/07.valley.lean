theorem RepV.eq {g : GG} {A : Nat → Prop} {M : MM} {b : Nat} {π : Nat → Nat} {v w : VV} (h : RepV g A M b π v) (e : w = v) : RepV g A M b π w := by rw [e]; exact h
def cp2 (P : Nat → Prop) [DecidablePred P] (v w : VV) (i : Nat) : VV := (v.1, va_up v.2.1 i (fun k => if P k then w.2.1 i k else v.2.1 i k), v.2.2)
theorem cp2_page (f : Nat → Nat → Int32) (h : Nat → Int32) (i : Nat) : va_up f i (fun k => if 8 ≤ k ∧ k < 16 then h k else f i k) = up2 (up2 (up2 (up2 (up2 (up2 (up2 (up2 f i 8 (h 8)) i 9 (h 9)) i 10 (h 10)) i 11 (h 11)) i 12 (h 12)) i 13 (h 13)) i 14 (h 14)) i 15 (h 15) := by
  funext a k
  by_cases ha : a = i
  · subst ha
    simp only [up2, va_up, if_true]
    by_cases h0 : 8 ≤ k ∧ k < 16
    · rw [if_pos h0]
      rcases (by omega : k = 8 ∨ k = 9 ∨ k = 10 ∨ k = 11 ∨ k = 12 ∨ k = 13 ∨ k = 14 ∨ k = 15) with rfl | rfl | rfl | rfl | rfl | rfl | rfl | rfl <;> simp
    · rw [if_neg h0]
      simp only [show ¬ k = 8 by omega, show ¬ k = 9 by omega, show ¬ k = 10 by omega, show ¬ k = 11 by omega, show ¬ k = 12 by omega, show ¬ k = 13 by omega, show ¬ k = 14 by omega, show ¬ k = 15 by omega, if_false]
  · simp only [up2, va_up, if_neg ha]
theorem cp_row (f : Nat → Nat → Int32) (h : Nat → Int32) (i : Nat) : va_up f i (cpR (f i) h) = up2 (up2 (up2 (up2 (up2 f i 0 (h 0)) i 1 (h 1)) i 2 (h 2)) i 3 (h 3)) i 4 (h 4) := by
  funext a k
  by_cases ha : a = i
  · subst ha
    simp only [up2, va_up, cpR, if_true]
    by_cases h0 : k < 5
    · rw [if_pos h0]
      rcases (by omega : k = 0 ∨ k = 1 ∨ k = 2 ∨ k = 3 ∨ k = 4) with rfl | rfl | rfl | rfl | rfl <;> simp
    · rw [if_neg h0]
      simp only [show ¬ k = 0 by omega, show ¬ k = 1 by omega, show ¬ k = 2 by omega, show ¬ k = 3 by omega, show ¬ k = 4 by omega, if_false]
  · simp only [up2, va_up, if_neg ha]
theorem cp_gauge (f : Nat → Nat → Int32) (h : Nat → Int32) (i : Nat) : va_up f i (cpG (f i) h) = va_up (up2 (up2 (up2 (up2 (up2 (up2 (up2 (up2 f i 0 (h 0)) i 1 (h 1)) i 2 (h 2)) i 3 (h 3)) i 4 (h 4)) i 5 (h 5)) i 6 (h 6)) i 7 (h 7)) i (fun k => if 8 ≤ k ∧ k < 16 then h k else (up2 (up2 (up2 (up2 (up2 (up2 (up2 (up2 f i 0 (h 0)) i 1 (h 1)) i 2 (h 2)) i 3 (h 3)) i 4 (h 4)) i 5 (h 5)) i 6 (h 6)) i 7 (h 7)) i k) := by
  funext a k
  by_cases ha : a = i
  · subst ha
    simp only [up2, va_up, cpG, if_true]
    by_cases h0 : k < 16
    · rw [if_pos h0]
      by_cases h1 : 8 ≤ k
      · rw [if_pos ⟨h1, h0⟩]
      · rw [if_neg (by omega)]
        rcases (by omega : k = 0 ∨ k = 1 ∨ k = 2 ∨ k = 3 ∨ k = 4 ∨ k = 5 ∨ k = 6 ∨ k = 7) with rfl | rfl | rfl | rfl | rfl | rfl | rfl | rfl <;> simp
    · rw [if_neg h0, if_neg (by omega)]
      simp only [show ¬ k = 0 by omega, show ¬ k = 1 by omega, show ¬ k = 2 by omega, show ¬ k = 3 by omega, show ¬ k = 4 by omega, show ¬ k = 5 by omega, show ¬ k = 6 by omega, show ¬ k = 7 by omega, if_false]
  · simp only [up2, va_up, if_neg ha]
def cprC (v : VV) (n j : Nat) : VV :=
  let v1 := vR v n 0 (v.2.2 j 0)
  let v2 := vR v1 n 1 (v1.2.2 j 1)
  let v3 := vR v2 n 2 (v2.2.2 j 2)
  let v4 := vR v3 n 3 (v3.2.2 j 3)
  vR v4 n 4 (v4.2.2 j 4)
theorem wen_a {v : VV} {i j : Nat} {n1 : Int32} (e : n1 = wen1 v i j) (c : 0 ≤ n1) (d : ¬ v.1 1 = 1) : n1 = wenC v i j := by
  unfold wenC wen2
  rw [if_neg d, ← e, if_neg (Int32.not_lt.mpr c)]
theorem wen_b {v : VV} {i j : Nat} {n1 : Int32} (e : n1 = wen1 v i j) (c : 0 ≤ n1) (d : v.1 1 = 1) : n1 + v.1 0 * rouC v (expC v i j - n1) = wenC v i j := by
  unfold wenC wen2
  rw [if_pos d, ← e, if_neg (Int32.not_lt.mpr c)]
theorem wen_c {v : VV} {i j : Nat} {n1 n2 : Int32} (e : n1 = wen1 v i j) (c : ¬ 0 ≤ n1) (e2 : n2 = n1 + v.1 0) (d : ¬ v.1 1 = 1) : n2 = wenC v i j := by
  unfold wenC wen2
  rw [if_neg d, ← e, if_pos (Int32.not_le.mp c), e2]
theorem wen_d {v : VV} {i j : Nat} {n1 n2 : Int32} (e : n1 = wen1 v i j) (c : ¬ 0 ≤ n1) (e2 : n2 = n1 + v.1 0) (d : v.1 1 = 1) : n2 + v.1 0 * rouC v (expC v i j - n2) = wenC v i j := by
  unfold wenC wen2
  rw [if_pos d, ← e, if_pos (Int32.not_le.mp c), e2]
section
variable {v : VV} {i j : Nat}
theorem hea_late (e : gxn 6 (v.2.2 j 0) = some i) (h : v.2.2 j 2 < v.2.1 i 9) : heaC v j = vG v i 13 (v.2.1 i 13 + 1) := by
  unfold heaC heaT
  rw [e]
  exact if_pos h
theorem hea_twice (e : gxn 6 (v.2.2 j 0) = some i) (h : v.2.1 i 9 ≤ v.2.2 j 2) (h2 : 0 < v.2.1 i 12) (h3 : v.2.2 j 2 = v.2.1 i 9) (h4 : whC v (v.2.2 j 1) = whC v (v.2.1 i 10)) : heaC v j = vG v i 14 (v.2.1 i 14 + 1) := by
  unfold heaC heaT
  rw [e]
  exact (if_neg (Int32.not_lt.mpr h)).trans (if_pos ⟨h2, h3, h4⟩)
theorem hea_take (e : gxn 6 (v.2.2 j 0) = some i) (h : v.2.1 i 9 ≤ v.2.2 j 2) (h2 : ¬ (0 < v.2.1 i 12 ∧ v.2.2 j 2 = v.2.1 i 9 ∧ whC v (v.2.2 j 1) = whC v (v.2.1 i 10))) : heaC v j = takC v i j := by
  unfold heaC heaT
  rw [e]
  exact (if_neg (Int32.not_lt.mpr h)).trans (if_neg h2)
theorem hea_take1 (e : gxn 6 (v.2.2 j 0) = some i) (h : v.2.1 i 9 ≤ v.2.2 j 2) (h2 : v.2.1 i 12 ≤ 0) : heaC v j = takC v i j := hea_take e h (fun q => Int32.not_lt.mpr h2 q.1)
theorem hea_take2 (e : gxn 6 (v.2.2 j 0) = some i) (h : v.2.1 i 9 ≤ v.2.2 j 2) (h2 : ¬ v.2.2 j 2 = v.2.1 i 9) : heaC v j = takC v i j := hea_take e h (fun q => h2 q.2.1)
theorem hea_take3 (e : gxn 6 (v.2.2 j 0) = some i) (h : v.2.1 i 9 ≤ v.2.2 j 2) (h2 : ¬ whC v (v.2.2 j 1) = whC v (v.2.1 i 10)) : heaC v j = takC v i j := hea_take e h (fun q => h2 q.2.2)
end
set_option maxHeartbeats 4000000 in
set_option maxRecDepth 100000 in
/-- a page takes over another valley's -/
theorem k_X4_copyFrom (l : Launch) (g : GG) (A : Nat → Prop) (M0 : MM) (b : Nat) (π : Nat → Nat) (v : VV) (i : Nat) (b2 : Nat) (π2 : Nat → Nat) (v2 : VV) (hR : RepV g A M0 b π v) (hO : RepV g A M0 b2 π2 v2) (hd : b2 + 35 ≤ b ∨ b + 35 ≤ b2) (hi : i < 6) : Met l yX4_copyFrom (Uw yX4_copyFrom cX4_copyFrom 2 (Option.none : Option ClassFile.FieldType)) (rmD 0) (PreM [.ref (b + 4 + 2 * i), .ref (b2 + 4 + 2 * i)] g A M0) (PosV (fun M1 => RepV g A M1 b π (cp2 (fun k => 8 ≤ k ∧ k < 16) v v2 i) ∧ FrV b M0 M1) g A) 0 0 A := by
  refine mk_Met (own := RX4) rfl rfl (by decide) (Nat.le_of_ble_eq_true rfl) ?_
  intro p e s m below meth c ls aa Q haa hQ hx hb hr hlk hml hown hts hK hM hS hl hnm
  obtain ⟨M, hMM⟩ : ∃ M, M = M0 := ⟨_, rfl⟩
  rw [← hMM] at hM hR
  have ht : ∀ w ∈ lw_good, w.before _ s = true := fun w h => hts w (List.mem_cons_of_mem _ h)
  have hF : FrV b M0 M := by rw [hMM]; exact FrV.rf
  have hl : lv_has ls 2 [(0, .ref (b + 4 + 2 * i)), (1, .ref (b2 + 4 + 2 * i))] := hl
  refine lv_aload_n hx hb dX4_copyFrom_0 rfl (lv_at hl 0 rfl) ?_
  refine lv_aload_n hx hb dX4_copyFrom_1 rfl (lv_at hl 1 rfl) ?_
  refine rv_getP hx hb ht ui_X4 hown hK hM (hO.fr hF hd) hi 0 (by decide) (ht _ uw_73) dX4_copyFrom_2 ?_
  refine rv_putP hx hb ht ui_X4 hown hK hM hS hR hF hi 0 (by decide) (ht _ uw_73) dX4_copyFrom_5 (fun M H locs hM hR hF hS => ?_)
  refine lv_aload_n hx hb dX4_copyFrom_8 rfl (lv_at hl 0 rfl) ?_
  refine lv_aload_n hx hb dX4_copyFrom_9 rfl (lv_at hl 1 rfl) ?_
  refine rv_getP hx hb ht ui_X4 hown hK hM (hO.fr hF hd) hi 1 (by decide) (ht _ uw_77) dX4_copyFrom_10 ?_
  refine rv_putP hx hb ht ui_X4 hown hK hM hS hR hF hi 1 (by decide) (ht _ uw_77) dX4_copyFrom_13 (fun M H locs hM hR hF hS => ?_)
  refine lv_aload_n hx hb dX4_copyFrom_16 rfl (lv_at hl 0 rfl) ?_
  refine lv_aload_n hx hb dX4_copyFrom_17 rfl (lv_at hl 1 rfl) ?_
  refine rv_getP hx hb ht ui_X4 hown hK hM (hO.fr hF hd) hi 2 (by decide) (ht _ uw_80) dX4_copyFrom_18 ?_
  refine rv_putP hx hb ht ui_X4 hown hK hM hS hR hF hi 2 (by decide) (ht _ uw_80) dX4_copyFrom_21 (fun M H locs hM hR hF hS => ?_)
  refine lv_aload_n hx hb dX4_copyFrom_24 rfl (lv_at hl 0 rfl) ?_
  refine lv_aload_n hx hb dX4_copyFrom_25 rfl (lv_at hl 1 rfl) ?_
  refine rv_getP hx hb ht ui_X4 hown hK hM (hO.fr hF hd) hi 3 (by decide) (ht _ uw_84) dX4_copyFrom_26 ?_
  refine rv_putP hx hb ht ui_X4 hown hK hM hS hR hF hi 3 (by decide) (ht _ uw_84) dX4_copyFrom_29 (fun M H locs hM hR hF hS => ?_)
  refine lv_aload_n hx hb dX4_copyFrom_32 rfl (lv_at hl 0 rfl) ?_
  refine lv_aload_n hx hb dX4_copyFrom_33 rfl (lv_at hl 1 rfl) ?_
  refine rv_getP hx hb ht ui_X4 hown hK hM (hO.fr hF hd) hi 4 (by decide) (ht _ uw_86) dX4_copyFrom_34 ?_
  refine rv_putP hx hb ht ui_X4 hown hK hM hS hR hF hi 4 (by decide) (ht _ uw_86) dX4_copyFrom_37 (fun M H locs hM hR hF hS => ?_)
  refine lv_aload_n hx hb dX4_copyFrom_40 rfl (lv_at hl 0 rfl) ?_
  refine lv_aload_n hx hb dX4_copyFrom_41 rfl (lv_at hl 1 rfl) ?_
  refine rv_getP hx hb ht ui_X4 hown hK hM (hO.fr hF hd) hi 5 (by decide) (ht _ uw_89) dX4_copyFrom_42 ?_
  refine rv_putP hx hb ht ui_X4 hown hK hM hS hR hF hi 5 (by decide) (ht _ uw_89) dX4_copyFrom_45 (fun M H locs hM hR hF hS => ?_)
  refine lv_aload_n hx hb dX4_copyFrom_48 rfl (lv_at hl 0 rfl) ?_
  refine lv_aload_n hx hb dX4_copyFrom_49 rfl (lv_at hl 1 rfl) ?_
  refine rv_getP hx hb ht ui_X4 hown hK hM (hO.fr hF hd) hi 6 (by decide) (ht _ uw_92) dX4_copyFrom_50 ?_
  refine rv_putP hx hb ht ui_X4 hown hK hM hS hR hF hi 6 (by decide) (ht _ uw_92) dX4_copyFrom_53 (fun M H locs hM hR hF hS => ?_)
  refine lv_aload_n hx hb dX4_copyFrom_56 rfl (lv_at hl 0 rfl) ?_
  refine lv_aload_n hx hb dX4_copyFrom_57 rfl (lv_at hl 1 rfl) ?_
  refine rv_getP hx hb ht ui_X4 hown hK hM (hO.fr hF hd) hi 7 (by decide) (ht _ uw_95) dX4_copyFrom_58 ?_
  refine rv_putP hx hb ht ui_X4 hown hK hM hS hR hF hi 7 (by decide) (ht _ uw_95) dX4_copyFrom_61 (fun M H locs hM hR hF hS => ?_)
  subst hQ
  exact m_vret hx hb hr hlk hK hM hS dX4_copyFrom_64 (⟨RepV.eq hR (by simp only [cp2]; refine Prod.ext rfl (Prod.ext ?_ rfl); exact cp2_page _ _ _), hF⟩)

set_option maxHeartbeats 4000000 in
set_option maxRecDepth 100000 in
/-- a runner's row takes over another valley's -/
theorem k_X5_copyFrom (l : Launch) (g : GG) (A : Nat → Prop) (M0 : MM) (b : Nat) (π : Nat → Nat) (v : VV) (j : Nat) (b2 : Nat) (π2 : Nat → Nat) (v2 : VV) (hR : RepV g A M0 b π v) (hO : RepV g A M0 b2 π2 v2) (hd : b2 + 35 ≤ b ∨ b + 35 ≤ b2) (hj : j < 20) : Met l yX5_copyFrom (Uw yX5_copyFrom cX5_copyFrom 2 (Option.none : Option ClassFile.FieldType)) (rmD 0) (PreM [.ref (b + 15 + π j), .ref (b2 + 15 + π2 j)] g A M0) (PosV (fun M1 => RepV g A M1 b π (v.1, v.2.1, va_up v.2.2 j (cpR (v.2.2 j) (v2.2.2 j))) ∧ FrV b M0 M1) g A) 0 0 A := by
  refine mk_Met (own := RX5) rfl rfl (by decide) (Nat.le_of_ble_eq_true rfl) ?_
  intro p e s m below meth c ls aa Q haa hQ hx hb hr hlk hml hown hts hK hM hS hl hnm
  obtain ⟨M, hMM⟩ : ∃ M, M = M0 := ⟨_, rfl⟩
  rw [← hMM] at hM hR
  have ht : ∀ w ∈ lw_good, w.before _ s = true := fun w h => hts w (List.mem_cons_of_mem _ h)
  have hF : FrV b M0 M := by rw [hMM]; exact FrV.rf
  have hl : lv_has ls 2 [(0, .ref (b + 15 + π j)), (1, .ref (b2 + 15 + π2 j))] := hl
  refine lv_aload_n hx hb dX5_copyFrom_0 rfl (lv_at hl 0 rfl) ?_
  refine lv_aload_n hx hb dX5_copyFrom_1 rfl (lv_at hl 1 rfl) ?_
  refine rv_getR hx hb ht ui_X5 hown hK hM (hO.fr hF hd) hj 0 (by decide) (ht _ uw_163) dX5_copyFrom_2 ?_
  refine rv_putR hx hb ht ui_X5 hown hK hM hS hR hF hj 0 (by decide) (ht _ uw_163) dX5_copyFrom_5 (fun M H locs hM hR hF hS => ?_)
  refine lv_aload_n hx hb dX5_copyFrom_8 rfl (lv_at hl 0 rfl) ?_
  refine lv_aload_n hx hb dX5_copyFrom_9 rfl (lv_at hl 1 rfl) ?_
  refine rv_getR hx hb ht ui_X5 hown hK hM (hO.fr hF hd) hj 1 (by decide) (ht _ uw_166) dX5_copyFrom_10 ?_
  refine rv_putR hx hb ht ui_X5 hown hK hM hS hR hF hj 1 (by decide) (ht _ uw_166) dX5_copyFrom_13 (fun M H locs hM hR hF hS => ?_)
  refine lv_aload_n hx hb dX5_copyFrom_16 rfl (lv_at hl 0 rfl) ?_
  refine lv_aload_n hx hb dX5_copyFrom_17 rfl (lv_at hl 1 rfl) ?_
  refine rv_getR hx hb ht ui_X5 hown hK hM (hO.fr hF hd) hj 2 (by decide) (ht _ uw_169) dX5_copyFrom_18 ?_
  refine rv_putR hx hb ht ui_X5 hown hK hM hS hR hF hj 2 (by decide) (ht _ uw_169) dX5_copyFrom_21 (fun M H locs hM hR hF hS => ?_)
  refine lv_aload_n hx hb dX5_copyFrom_24 rfl (lv_at hl 0 rfl) ?_
  refine lv_aload_n hx hb dX5_copyFrom_25 rfl (lv_at hl 1 rfl) ?_
  refine rv_getR hx hb ht ui_X5 hown hK hM (hO.fr hF hd) hj 3 (by decide) (ht _ uw_172) dX5_copyFrom_26 ?_
  refine rv_putR hx hb ht ui_X5 hown hK hM hS hR hF hj 3 (by decide) (ht _ uw_172) dX5_copyFrom_29 (fun M H locs hM hR hF hS => ?_)
  refine lv_aload_n hx hb dX5_copyFrom_32 rfl (lv_at hl 0 rfl) ?_
  refine lv_aload_n hx hb dX5_copyFrom_33 rfl (lv_at hl 1 rfl) ?_
  refine rv_getR hx hb ht ui_X5 hown hK hM (hO.fr hF hd) hj 4 (by decide) (ht _ uw_174) dX5_copyFrom_34 ?_
  refine rv_putR hx hb ht ui_X5 hown hK hM hS hR hF hj 4 (by decide) (ht _ uw_174) dX5_copyFrom_37 (fun M H locs hM hR hF hS => ?_)
  subst hQ
  exact m_vret hx hb hr hlk hK hM hS dX5_copyFrom_40 (⟨RepV.eq hR (by refine Prod.ext rfl (Prod.ext rfl ?_); exact cp_row _ _ _), hF⟩)

set_option maxHeartbeats 4000000 in
set_option maxRecDepth 100000 in
/-- a runner's row takes over another of the same valley -/
theorem k_X5_copyFrom_2 (l : Launch) (g : GG) (A : Nat → Prop) (M0 : MM) (b : Nat) (π : Nat → Nat) (v : VV) (n j : Nat) (hR : RepV g A M0 b π v) (hn : n < 20) (hj : j < 20) : Met l yX5_copyFrom (Uw yX5_copyFrom cX5_copyFrom 2 (Option.none : Option ClassFile.FieldType)) (rmD 0) (PreM [.ref (b + 15 + π n), .ref (b + 15 + π j)] g A M0) (PosV (fun M1 => RepV g A M1 b π (cprC v n j) ∧ FrV b M0 M1) g A) 0 0 A := by
  refine mk_Met (own := RX5) rfl rfl (by decide) (Nat.le_of_ble_eq_true rfl) ?_
  intro p e s m below meth c ls aa Q haa hQ hx hb hr hlk hml hown hts hK hM hS hl hnm
  obtain ⟨M, hMM⟩ : ∃ M, M = M0 := ⟨_, rfl⟩
  rw [← hMM] at hM hR
  have ht : ∀ w ∈ lw_good, w.before _ s = true := fun w h => hts w (List.mem_cons_of_mem _ h)
  have hF : FrV b M0 M := by rw [hMM]; exact FrV.rf
  have hl : lv_has ls 2 [(0, .ref (b + 15 + π n)), (1, .ref (b + 15 + π j))] := hl
  refine lv_aload_n hx hb dX5_copyFrom_0 rfl (lv_at hl 0 rfl) ?_
  refine lv_aload_n hx hb dX5_copyFrom_1 rfl (lv_at hl 1 rfl) ?_
  refine rv_getR hx hb ht ui_X5 hown hK hM hR hj 0 (by decide) (ht _ uw_163) dX5_copyFrom_2 ?_
  refine rv_putR hx hb ht ui_X5 hown hK hM hS hR hF hn 0 (by decide) (ht _ uw_163) dX5_copyFrom_5 (fun M H locs hM hR hF hS => ?_)
  refine lv_aload_n hx hb dX5_copyFrom_8 rfl (lv_at hl 0 rfl) ?_
  refine lv_aload_n hx hb dX5_copyFrom_9 rfl (lv_at hl 1 rfl) ?_
  refine rv_getR hx hb ht ui_X5 hown hK hM hR hj 1 (by decide) (ht _ uw_166) dX5_copyFrom_10 ?_
  refine rv_putR hx hb ht ui_X5 hown hK hM hS hR hF hn 1 (by decide) (ht _ uw_166) dX5_copyFrom_13 (fun M H locs hM hR hF hS => ?_)
  refine lv_aload_n hx hb dX5_copyFrom_16 rfl (lv_at hl 0 rfl) ?_
  refine lv_aload_n hx hb dX5_copyFrom_17 rfl (lv_at hl 1 rfl) ?_
  refine rv_getR hx hb ht ui_X5 hown hK hM hR hj 2 (by decide) (ht _ uw_169) dX5_copyFrom_18 ?_
  refine rv_putR hx hb ht ui_X5 hown hK hM hS hR hF hn 2 (by decide) (ht _ uw_169) dX5_copyFrom_21 (fun M H locs hM hR hF hS => ?_)
  refine lv_aload_n hx hb dX5_copyFrom_24 rfl (lv_at hl 0 rfl) ?_
  refine lv_aload_n hx hb dX5_copyFrom_25 rfl (lv_at hl 1 rfl) ?_
  refine rv_getR hx hb ht ui_X5 hown hK hM hR hj 3 (by decide) (ht _ uw_172) dX5_copyFrom_26 ?_
  refine rv_putR hx hb ht ui_X5 hown hK hM hS hR hF hn 3 (by decide) (ht _ uw_172) dX5_copyFrom_29 (fun M H locs hM hR hF hS => ?_)
  refine lv_aload_n hx hb dX5_copyFrom_32 rfl (lv_at hl 0 rfl) ?_
  refine lv_aload_n hx hb dX5_copyFrom_33 rfl (lv_at hl 1 rfl) ?_
  refine rv_getR hx hb ht ui_X5 hown hK hM hR hj 4 (by decide) (ht _ uw_174) dX5_copyFrom_34 ?_
  refine rv_putR hx hb ht ui_X5 hown hK hM hS hR hF hn 4 (by decide) (ht _ uw_174) dX5_copyFrom_37 (fun M H locs hM hR hF hS => ?_)
  subst hQ
  exact m_vret hx hb hr hlk hK hM hS dX5_copyFrom_40 (⟨hR, hF⟩)

set_option maxHeartbeats 4000000 in
set_option maxRecDepth 100000 in
/-- a gauge takes over another valley's -/
theorem k_X0_copyFrom (l : Launch) (g : GG) (A : Nat → Prop) (M0 : MM) (b : Nat) (π : Nat → Nat) (v : VV) (i : Nat) (b2 : Nat) (π2 : Nat → Nat) (v2 : VV) (hR : RepV g A M0 b π v) (hO : RepV g A M0 b2 π2 v2) (hd : b2 + 35 ≤ b ∨ b + 35 ≤ b2) (hi : i < 6) : Met l yX0_copyFrom (Uw yX0_copyFrom cX0_copyFrom 2 (Option.none : Option ClassFile.FieldType)) (rmD 1) (PreM [.ref (b + 3 + 2 * i), .ref (b2 + 3 + 2 * i)] g A M0) (PosV (fun M1 => RepV g A M1 b π ((v.1, va_up v.2.1 i (cpG (v.2.1 i) (v2.2.1 i)), v.2.2)) ∧ FrV b M0 M1) g A) 0 0 A := by
  refine mk_Met (own := RX0) rfl rfl (by decide) (Nat.le_of_ble_eq_true rfl) ?_
  intro p e s m below meth c ls aa Q haa hQ hx hb hr hlk hml hown hts hK hM hS hl hnm
  obtain ⟨M, hMM⟩ : ∃ M, M = M0 := ⟨_, rfl⟩
  rw [← hMM] at hM hR
  have ht : ∀ w ∈ lw_good, w.before _ s = true := fun w h => hts w (List.mem_cons_of_mem _ h)
  have hF : FrV b M0 M := by rw [hMM]; exact FrV.rf
  have hl : lv_has ls 2 [(0, .ref (b + 3 + 2 * i)), (1, .ref (b2 + 3 + 2 * i))] := hl
  refine lv_aload_n hx hb dX0_copyFrom_0 rfl (lv_at hl 0 rfl) ?_
  refine lv_aload_n hx hb dX0_copyFrom_1 rfl (lv_at hl 1 rfl) ?_
  refine rv_getG hx hb ht ui_X0 hown hK hM (hO.fr hF hd) hi 0 (by decide) (ht _ uw_115) dX0_copyFrom_2 ?_
  refine rv_putG hx hb ht ui_X0 hown hK hM hS hR hF hi 0 (by decide) (ht _ uw_115) dX0_copyFrom_5 (fun M H locs hM hR hF hS => ?_)
  refine lv_aload_n hx hb dX0_copyFrom_8 rfl (lv_at hl 0 rfl) ?_
  refine lv_aload_n hx hb dX0_copyFrom_9 rfl (lv_at hl 1 rfl) ?_
  refine rv_getG hx hb ht ui_X0 hown hK hM (hO.fr hF hd) hi 1 (by decide) (ht _ uw_118) dX0_copyFrom_10 ?_
  refine rv_putG hx hb ht ui_X0 hown hK hM hS hR hF hi 1 (by decide) (ht _ uw_118) dX0_copyFrom_13 (fun M H locs hM hR hF hS => ?_)
  refine lv_aload_n hx hb dX0_copyFrom_16 rfl (lv_at hl 0 rfl) ?_
  refine lv_aload_n hx hb dX0_copyFrom_17 rfl (lv_at hl 1 rfl) ?_
  refine rv_getG hx hb ht ui_X0 hown hK hM (hO.fr hF hd) hi 2 (by decide) (ht _ uw_121) dX0_copyFrom_18 ?_
  refine rv_putG hx hb ht ui_X0 hown hK hM hS hR hF hi 2 (by decide) (ht _ uw_121) dX0_copyFrom_21 (fun M H locs hM hR hF hS => ?_)
  refine lv_aload_n hx hb dX0_copyFrom_24 rfl (lv_at hl 0 rfl) ?_
  refine lv_aload_n hx hb dX0_copyFrom_25 rfl (lv_at hl 1 rfl) ?_
  refine rv_getG hx hb ht ui_X0 hown hK hM (hO.fr hF hd) hi 3 (by decide) (ht _ uw_124) dX0_copyFrom_26 ?_
  refine rv_putG hx hb ht ui_X0 hown hK hM hS hR hF hi 3 (by decide) (ht _ uw_124) dX0_copyFrom_29 (fun M H locs hM hR hF hS => ?_)
  refine lv_aload_n hx hb dX0_copyFrom_32 rfl (lv_at hl 0 rfl) ?_
  refine lv_aload_n hx hb dX0_copyFrom_33 rfl (lv_at hl 1 rfl) ?_
  refine rv_getG hx hb ht ui_X0 hown hK hM (hO.fr hF hd) hi 4 (by decide) (ht _ uw_127) dX0_copyFrom_34 ?_
  refine rv_putG hx hb ht ui_X0 hown hK hM hS hR hF hi 4 (by decide) (ht _ uw_127) dX0_copyFrom_37 (fun M H locs hM hR hF hS => ?_)
  refine lv_aload_n hx hb dX0_copyFrom_40 rfl (lv_at hl 0 rfl) ?_
  refine lv_aload_n hx hb dX0_copyFrom_41 rfl (lv_at hl 1 rfl) ?_
  refine rv_getG hx hb ht ui_X0 hown hK hM (hO.fr hF hd) hi 5 (by decide) (ht _ uw_130) dX0_copyFrom_42 ?_
  refine rv_putG hx hb ht ui_X0 hown hK hM hS hR hF hi 5 (by decide) (ht _ uw_130) dX0_copyFrom_45 (fun M H locs hM hR hF hS => ?_)
  refine lv_aload_n hx hb dX0_copyFrom_48 rfl (lv_at hl 0 rfl) ?_
  refine lv_aload_n hx hb dX0_copyFrom_49 rfl (lv_at hl 1 rfl) ?_
  refine rv_getG hx hb ht ui_X0 hown hK hM (hO.fr hF hd) hi 6 (by decide) (ht _ uw_132) dX0_copyFrom_50 ?_
  refine rv_putG hx hb ht ui_X0 hown hK hM hS hR hF hi 6 (by decide) (ht _ uw_132) dX0_copyFrom_53 (fun M H locs hM hR hF hS => ?_)
  refine lv_aload_n hx hb dX0_copyFrom_56 rfl (lv_at hl 0 rfl) ?_
  refine lv_aload_n hx hb dX0_copyFrom_57 rfl (lv_at hl 1 rfl) ?_
  refine rv_getG hx hb ht ui_X0 hown hK hM (hO.fr hF hd) hi 7 (by decide) (ht _ uw_134) dX0_copyFrom_58 ?_
  refine rv_putG hx hb ht ui_X0 hown hK hM hS hR hF hi 7 (by decide) (ht _ uw_134) dX0_copyFrom_61 (fun M H locs hM hR hF hS => ?_)
  refine lv_aload_n hx hb dX0_copyFrom_64 rfl (lv_at hl 0 rfl) ?_
  refine rv_getpg hx hb ht ui_X0 hown hK hM hR hi (ht _ uw_136) dX0_copyFrom_65 ?_
  refine lv_aload_n hx hb dX0_copyFrom_68 rfl (lv_at hl 1 rfl) ?_
  refine rv_getpg hx hb ht ui_X0 hown hK hM (hO.fr hF hd) hi (ht _ uw_136) dX0_copyFrom_69 ?_
  refine m_callV (As := [.ref (b2 + 4 + 2 * i)]) (rest := []) ⟨hx, hb, hml, hown, ht⟩ (k_X4_copyFrom l g A M b π (vG (vG (vG (vG (vG (vG (vG (vG v i 0 (v2.2.1 i 0)) i 1 (v2.2.1 i 1)) i 2 (v2.2.1 i 2)) i 3 (v2.2.1 i 3)) i 4 (v2.2.1 i 4)) i 5 (v2.2.1 i 5)) i 6 (v2.2.1 i 6)) i 7 (v2.2.1 i 7)) i b2 π2 v2 hR (hO.fr hF hd) hd hi) (cwV 1 ht (gU uw_320 uw_321 uw_322 uw_37 uw_323) rfl rfl rfl (by decide +kernel) ⟨by decide, by decide⟩) hK hM hS (m_recv hK hM (hR.AP hi) (hR.P hi) rfl) rfl hl.1 rfl (Nat.le_of_ble_eq_true rfl) dX0_copyFrom_72 ⟨by decide, by decide⟩ (fun M H locs hp hM hS => ?_)
  obtain ⟨hR, hF1⟩ := hp
  have hF := hF.tr hF1
  subst hQ
  exact m_vret hx hb hr hlk hK hM hS dX0_copyFrom_75 (⟨RepV.eq hR (by refine Prod.ext rfl (Prod.ext ?_ rfl); exact cp_gauge _ _ _), hF⟩)

set_option maxHeartbeats 4000000 in
set_option maxRecDepth 100000 in
/-- a runner counts as lost -/
theorem k_X6_countAsLost (l : Launch) (g : GG) (A : Nat → Prop) (M0 : MM) (b : Nat) (π : Nat → Nat) (v : VV) (j : Nat) (hR : RepV g A M0 b π v) (hj : j < 20) : Met l yX6_countAsLost (Uw yX6_countAsLost cX6_countAsLost 3 (Option.none : Option ClassFile.FieldType)) (rmD 1) (PreM [.ref (b), .ref (b + 15 + π j)] g A M0) (PosV (fun M1 => RepV g A M1 b π (cosC v j) ∧ FrV b M0 M1) g A) 0 0 A := by
  refine mk_Met (own := RX6) rfl rfl (by decide) (Nat.le_of_ble_eq_true rfl) ?_
  intro p e s m below meth c ls aa Q haa hQ hx hb hr hlk hml hown hts hK hM hS hl hnm
  obtain ⟨M, hMM⟩ : ∃ M, M = M0 := ⟨_, rfl⟩
  rw [← hMM] at hM hR
  have ht : ∀ w ∈ lw_good, w.before _ s = true := fun w h => hts w (List.mem_cons_of_mem _ h)
  have hF : FrV b M0 M := by rw [hMM]; exact FrV.rf
  have hl : lv_has ls 3 [(0, .ref (b)), (1, .ref (b + 15 + π j))] := hl
  rcases gxn_cases (n := 6) (by decide) (v.2.2 j 0) with ⟨e1, h1⟩ | ⟨i, hi, ex, e1⟩
  · refine lv_aload_n hx hb dX6_countAsLost_0 rfl (lv_at hl 0 rfl) ?_
    refine lv_aload_n hx hb dX6_countAsLost_1 rfl (lv_at hl 1 rfl) ?_
    refine rv_getR hx hb ht ui_X5 hown hK hM hR hj 0 (by decide) (ht _ uw_165) dX6_countAsLost_2 ?_
    refine m_callRQ (val := none) (w := .null) (rfl) (As := [.int (v.2.2 j 0)]) (rest := []) ⟨hx, hb, hml, hown, ht⟩ (k_X6_gaugeAt l g A M b π v (v.2.2 j 0) none hR e1) (cwV 1 ht (gU uw_336 uw_337 uw_338 uw_35 uw_339) rfl rfl rfl (by decide +kernel) ⟨by decide, by decide⟩) hK hM hS (m_recv hK hM hR.AW hR.W rfl) rfl hl.1 rfl (Nat.le_of_ble_eq_true rfl) dX6_countAsLost_5 ⟨by decide, by decide⟩ (fun H locs hM hS => ?_)
    refine lv_astore_nN (lv' := [(2, .null), (0, .ref (b)), (1, .ref (b + 15 + π j))]) hx hb dX6_countAsLost_8 rfl hl (by decide) rfl (fun ls hl => ?_)
    refine lv_aload_nN hx hb dX6_countAsLost_9 rfl (lv_at hl 0 rfl) ?_
    refine lv_ifnullN (tgt := 26) hx hb dX6_countAsLost_10 (by decide) ?_
    subst hQ
    exact m_vret hx hb hr hlk hK hM hS dX6_countAsLost_26 (⟨RepV.eq hR (by unfold cosC; rw [e1]), hF⟩)
  · refine lv_aload_n hx hb dX6_countAsLost_0 rfl (lv_at hl 0 rfl) ?_
    refine lv_aload_n hx hb dX6_countAsLost_1 rfl (lv_at hl 1 rfl) ?_
    refine rv_getR hx hb ht ui_X5 hown hK hM hR hj 0 (by decide) (ht _ uw_165) dX6_countAsLost_2 ?_
    refine m_callRQ (val := some (b + 3 + 2 * i)) (w := .ref (b + 3 + 2 * i)) (rfl) (As := [.int (v.2.2 j 0)]) (rest := []) ⟨hx, hb, hml, hown, ht⟩ (k_X6_gaugeAt l g A M b π v (v.2.2 j 0) (some i) hR e1) (cwV 1 ht (gU uw_336 uw_337 uw_338 uw_35 uw_339) rfl rfl rfl (by decide +kernel) ⟨by decide, by decide⟩) hK hM hS (m_recv hK hM hR.AW hR.W rfl) rfl hl.1 rfl (Nat.le_of_ble_eq_true rfl) dX6_countAsLost_5 ⟨by decide, by decide⟩ (fun H locs hM hS => ?_)
    refine lv_astore_n (lv' := [(2, .ref (b + 3 + 2 * i)), (0, .ref (b)), (1, .ref (b + 15 + π j))]) hx hb dX6_countAsLost_8 rfl hl (by decide) rfl (fun ls hl => ?_)
    refine lv_aload_n hx hb dX6_countAsLost_9 rfl (lv_at hl 0 rfl) ?_
    refine lv_ifnull hx hb dX6_countAsLost_10 ?_
    refine lv_aload_n hx hb dX6_countAsLost_13 rfl (lv_at hl 0 rfl) ?_
    refine rv_getpg hx hb ht ui_X0 hown hK hM hR hi (ht _ uw_138) dX6_countAsLost_14 ?_
    refine lv_dup hx hb dX6_countAsLost_17 rfl ?_
    refine rv_getP hx hb ht ui_X4 hown hK hM hR hi 7 (by decide) (ht _ uw_97) dX6_countAsLost_18 ?_
    refine lv_iconst (v := 1) hx hb dX6_countAsLost_21 (by first | rfl | decide) ?_
    refine lv_iadd hx hb dX6_countAsLost_22 ?_
    refine rv_putP hx hb ht ui_X4 hown hK hM hS hR hF hi 7 (by decide) (ht _ uw_97) dX6_countAsLost_23 (fun M H locs hM hR hF hS => ?_)
    subst hQ
    exact m_vret hx hb hr hlk hK hM hS dX6_countAsLost_26 (⟨RepV.eq hR (by unfold cosC; rw [e1]), hF⟩)

set_option maxHeartbeats 4000000 in
set_option maxRecDepth 100000 in
/-- the tips that the village lets expect -/
theorem k_X6_expectedTips (l : Launch) (g : GG) (A : Nat → Prop) (M0 : MM) (b : Nat) (π : Nat → Nat) (v : VV) (i j : Nat) (hR : RepV g A M0 b π v) (hi : i < 6) (hj : j < 20) : Met l yX6_expectedTips (Uw yX6_expectedTips cX6_expectedTips 5 (Option.some ClassFile.FieldType.int)) (rmD 0) (PreM [.ref (b), .ref (b + 3 + 2 * i), .ref (b + 15 + π j)] g A M0) (PosI (fun r M1 => r = (expC v i j) ∧ M1 = M0) g A) 0 0 A := by
  refine mk_Met (own := RX6) rfl rfl (by decide) (Nat.le_of_ble_eq_true rfl) ?_
  intro p e s m below meth c ls aa Q haa hQ hx hb hr hlk hml hown hts hK hM hS hl hnm
  obtain ⟨M, hMM⟩ : ∃ M, M = M0 := ⟨_, rfl⟩
  rw [← hMM] at hM hR
  have ht : ∀ w ∈ lw_good, w.before _ s = true := fun w h => hts w (List.mem_cons_of_mem _ h)
  have hF : FrV b M0 M := by rw [hMM]; exact FrV.rf
  have hl : lv_has ls 5 [(0, .ref (b)), (1, .ref (b + 3 + 2 * i)), (2, .ref (b + 15 + π j))] := hl
  refine lv_aload_n hx hb dX6_expectedTips_0 rfl (lv_at hl 0 rfl) ?_
  refine rv_getga hx hb ht ui_X6 hown hK hM hR (ht _ uw_196) dX6_expectedTips_1 ?_
  refine lv_iconst (v := nI 0) hx hb dX6_expectedTips_4 (by first | rfl | decide) ?_
  refine rv_aldG hx hb hK hM hR ((by decide : 0 < 6)) dX6_expectedTips_5 ?_
  refine rv_getG hx hb ht ui_X0 hown hK hM hR ((by decide : 0 < 6)) 0 (by decide) (ht _ uw_117) dX6_expectedTips_6 ?_
  refine lv_istore_n (lv' := [(3, .int (v.2.1 0 0)), (0, .ref (b)), (1, .ref (b + 3 + 2 * i)), (2, .ref (b + 15 + π j))]) hx hb dX6_expectedTips_9 rfl hl (by decide) rfl (fun ls hl => ?_)
  refine lv_iload_n hx hb dX6_expectedTips_10 rfl (lv_at hl 0 rfl) ?_
  refine lv_if_le (tgt := 21) hx hb dX6_expectedTips_11 (by decide) (fun c_11 => ?_) (fun c_11 => ?_)
  · refine lv_iconst (v := nI 0) hx hb dX6_expectedTips_21 (by first | rfl | decide) ?_
    subst hQ
    exact m_zret hx hb hr rfl hlk hK hM hS dX6_expectedTips_22 (⟨by unfold expC; first | rw [if_pos (Or.inl c_11)]; rfl | (rw [if_pos (Or.inr (Int32.not_lt.mp c_18))]; rfl) | rw [if_neg (fun q => q.elim c_11 (Int32.not_le.mpr c_18))], hMM⟩)
  · refine lv_aload_n hx hb dX6_expectedTips_14 rfl (lv_at hl 2 rfl) ?_
    refine rv_getG hx hb ht ui_X0 hown hK hM hR hi 1 (by decide) (ht _ uw_120) dX6_expectedTips_15 ?_
    refine lv_if_gt (tgt := 23) hx hb dX6_expectedTips_18 (by decide) (fun c_18 => ?_) (fun c_18 => ?_)
    · refine lv_aload_n hx hb dX6_expectedTips_23 rfl (lv_at hl 3 rfl) ?_
      refine rv_getR hx hb ht ui_X5 hown hK hM hR hj 3 (by decide) (ht _ uw_173) dX6_expectedTips_24 ?_
      refine lv_aload_n hx hb dX6_expectedTips_27 rfl (lv_at hl 2 rfl) ?_
      refine rv_getpg hx hb ht ui_X0 hown hK hM hR hi (ht _ uw_138) dX6_expectedTips_28 ?_
      refine rv_getP hx hb ht ui_X4 hown hK hM hR hi 3 (by decide) (ht _ uw_85) dX6_expectedTips_31 ?_
      refine lv_isub hx hb dX6_expectedTips_34 ?_
      refine lv_istore (lv' := [(4, .int ((v.2.2 j 3) - (v.2.1 i 11))), (3, .int (v.2.1 0 0)), (0, .ref (b)), (1, .ref (b + 3 + 2 * i)), (2, .ref (b + 15 + π j))]) hx hb dX6_expectedTips_35 hl (by decide) rfl (fun ls hl => ?_)
      refine lv_iload hx hb dX6_expectedTips_37 (lv_at hl 0 rfl) ?_
      refine lv_aload_n hx hb dX6_expectedTips_39 rfl (lv_at hl 3 rfl) ?_
      refine rv_getG hx hb ht ui_X0 hown hK hM hR hi 0 (by decide) (ht _ uw_117) dX6_expectedTips_40 ?_
      refine lv_imul hx hb dX6_expectedTips_43 ?_
      refine lv_iload_n hx hb dX6_expectedTips_44 rfl (lv_at hl 1 rfl) ?_
      refine lv_idiv hx hb dX6_expectedTips_45 (c_nz c_11) ?_
      refine lv_aload_n hx hb dX6_expectedTips_46 rfl (lv_at hl 3 rfl) ?_
      refine rv_getG hx hb ht ui_X0 hown hK hM hR hi 1 (by decide) (ht _ uw_120) dX6_expectedTips_47 ?_
      refine lv_idiv hx hb dX6_expectedTips_50 (c_nz (Int32.not_le.mpr c_18)) ?_
      subst hQ
      exact m_zret hx hb hr rfl hlk hK hM hS dX6_expectedTips_51 (⟨by unfold expC; first | rw [if_pos (Or.inl c_11)]; rfl | (rw [if_pos (Or.inr (Int32.not_lt.mp c_18))]; rfl) | rw [if_neg (fun q => q.elim c_11 (Int32.not_le.mpr c_18))], hMM⟩)
    · refine lv_iconst (v := nI 0) hx hb dX6_expectedTips_21 (by first | rfl | decide) ?_
      subst hQ
      exact m_zret hx hb hr rfl hlk hK hM hS dX6_expectedTips_22 (⟨by unfold expC; first | rw [if_pos (Or.inl c_11)]; rfl | (rw [if_pos (Or.inr (Int32.not_lt.mp c_18))]; rfl) | rw [if_neg (fun q => q.elim c_11 (Int32.not_le.mpr c_18))], hMM⟩)

set_option maxHeartbeats 4000000 in
set_option maxRecDepth 100000 in
/-- the rounds of the wheel that come nearer -/
theorem k_X6_roundsFor (l : Launch) (g : GG) (A : Nat → Prop) (M0 : MM) (b : Nat) (π : Nat → Nat) (v : VV) (x : Int32) (hR : RepV g A M0 b π v)  : Met l yX6_roundsFor (Uw yX6_roundsFor cX6_roundsFor 2 (Option.some ClassFile.FieldType.int)) (rmD 0) (PreM [.ref (b), .int (x)] g A M0) (PosI (fun r M1 => r = (rouC v x) ∧ M1 = M0) g A) 0 0 A := by
  refine mk_Met (own := RX6) rfl rfl (by decide) (Nat.le_of_ble_eq_true rfl) ?_
  intro p e s m below meth c ls aa Q haa hQ hx hb hr hlk hml hown hts hK hM hS hl hnm
  obtain ⟨M, hMM⟩ : ∃ M, M = M0 := ⟨_, rfl⟩
  rw [← hMM] at hM hR
  have ht : ∀ w ∈ lw_good, w.before _ s = true := fun w h => hts w (List.mem_cons_of_mem _ h)
  have hF : FrV b M0 M := by rw [hMM]; exact FrV.rf
  have hl : lv_has ls 2 [(0, .ref (b)), (1, .int (x))] := hl
  refine lv_iload_n hx hb dX6_roundsFor_0 rfl (lv_at hl 1 rfl) ?_
  refine lv_if_le (tgt := 11) hx hb dX6_roundsFor_1 (by decide) (fun c_1 => ?_) (fun c_1 => ?_)
  · refine lv_iconst (v := 0) hx hb dX6_roundsFor_11 (by first | rfl | decide) ?_
    subst hQ
    exact m_zret hx hb hr rfl hlk hK hM hS dX6_roundsFor_12 (⟨by unfold rouC; first | rw [if_pos (Or.inl c_1)] | rw [if_pos (Or.inr (Int32.not_lt.mp c_8))] | rw [if_neg (fun q => q.elim c_1 (Int32.not_le.mpr c_8))], hMM⟩)
  · refine lv_aload_n hx hb dX6_roundsFor_4 rfl (lv_at hl 0 rfl) ?_
    refine rv_getW hx hb ht ui_X6 hown hK hM hR 0 (by decide) (ht _ uw_188) dX6_roundsFor_5 ?_
    refine lv_if_gt (tgt := 13) hx hb dX6_roundsFor_8 (by decide) (fun c_8 => ?_) (fun c_8 => ?_)
    · refine lv_iconst (v := 2) hx hb dX6_roundsFor_13 (by first | rfl | decide) ?_
      refine lv_iload_n hx hb dX6_roundsFor_14 rfl (lv_at hl 1 rfl) ?_
      refine lv_imul hx hb dX6_roundsFor_15 ?_
      refine lv_aload_n hx hb dX6_roundsFor_16 rfl (lv_at hl 0 rfl) ?_
      refine rv_getW hx hb ht ui_X6 hown hK hM hR 0 (by decide) (ht _ uw_188) dX6_roundsFor_17 ?_
      refine lv_iadd hx hb dX6_roundsFor_20 ?_
      refine lv_iconst (v := 1) hx hb dX6_roundsFor_21 (by first | rfl | decide) ?_
      refine lv_isub hx hb dX6_roundsFor_22 ?_
      refine lv_iconst (v := 2) hx hb dX6_roundsFor_23 (by first | rfl | decide) ?_
      refine lv_aload_n hx hb dX6_roundsFor_24 rfl (lv_at hl 0 rfl) ?_
      refine rv_getW hx hb ht ui_X6 hown hK hM hR 0 (by decide) (ht _ uw_188) dX6_roundsFor_25 ?_
      refine lv_imul hx hb dX6_roundsFor_28 ?_
      refine lv_idiv hx hb dX6_roundsFor_29 (two_nz (Int32.not_le.mpr c_8)) ?_
      subst hQ
      exact m_zret hx hb hr rfl hlk hK hM hS dX6_roundsFor_30 (⟨by unfold rouC; first | rw [if_pos (Or.inl c_1)] | rw [if_pos (Or.inr (Int32.not_lt.mp c_8))] | rw [if_neg (fun q => q.elim c_1 (Int32.not_le.mpr c_8))], hMM⟩)
    · refine lv_iconst (v := 0) hx hb dX6_roundsFor_11 (by first | rfl | decide) ?_
      subst hQ
      exact m_zret hx hb hr rfl hlk hK hM hS dX6_roundsFor_12 (⟨by unfold rouC; first | rw [if_pos (Or.inl c_1)] | rw [if_pos (Or.inr (Int32.not_lt.mp c_8))] | rw [if_neg (fun q => q.elim c_1 (Int32.not_le.mpr c_8))], hMM⟩)

set_option maxHeartbeats 4000000 in
set_option maxRecDepth 100000 in
/-- what the wheel went on -/
theorem k_X6_wentOn (l : Launch) (g : GG) (A : Nat → Prop) (M0 : MM) (b : Nat) (π : Nat → Nat) (v : VV) (i j : Nat) (hR : RepV g A M0 b π v) (hi : i < 6) (hj : j < 20) : Met l yX6_wentOn (Uw yX6_wentOn cX6_wentOn 4 (Option.some ClassFile.FieldType.int)) (rmD 1) (PreM [.ref (b), .ref (b + 3 + 2 * i), .ref (b + 15 + π j)] g A M0) (PosI (fun r M1 => r = (wenC v i j) ∧ M1 = M0) g A) 0 0 A := by
  refine mk_Met (own := RX6) rfl rfl (by decide) (Nat.le_of_ble_eq_true rfl) ?_
  intro p e s m below meth c ls aa Q haa hQ hx hb hr hlk hml hown hts hK hM hS hl hnm
  obtain ⟨M, hMM⟩ : ∃ M, M = M0 := ⟨_, rfl⟩
  rw [← hMM] at hM hR
  have ht : ∀ w ∈ lw_good, w.before _ s = true := fun w h => hts w (List.mem_cons_of_mem _ h)
  have hF : FrV b M0 M := by rw [hMM]; exact FrV.rf
  have hl : lv_has ls 4 [(0, .ref (b)), (1, .ref (b + 3 + 2 * i)), (2, .ref (b + 15 + π j))] := hl
  refine lv_aload_n hx hb dX6_wentOn_0 rfl (lv_at hl 0 rfl) ?_
  refine lv_aload_n hx hb dX6_wentOn_1 rfl (lv_at hl 2 rfl) ?_
  refine rv_getR hx hb ht ui_X5 hown hK hM hR hj 1 (by decide) (ht _ uw_167) dX6_wentOn_2 ?_
  refine m_callRI (val := whC v (v.2.2 j 1)) (As := [.int (v.2.2 j 1)]) (rest := []) ⟨hx, hb, hml, hown, ht⟩ (k_X6_wheelAt l g A M b π v (v.2.2 j 1) hR) (cwV 1 ht (gU uw_376 uw_377 uw_378 uw_35 uw_379) rfl rfl rfl (by decide +kernel) ⟨by decide, by decide⟩) hK hM hS (m_recv hK hM hR.AW hR.W rfl) rfl hl.1 rfl (Nat.le_of_ble_eq_true rfl) dX6_wentOn_5 ⟨by decide, by decide⟩ (fun H locs hM hS => ?_)
  refine lv_aload_n hx hb dX6_wentOn_8 rfl (lv_at hl 0 rfl) ?_
  refine lv_aload_n hx hb dX6_wentOn_9 rfl (lv_at hl 1 rfl) ?_
  refine rv_getpg hx hb ht ui_X0 hown hK hM hR hi (ht _ uw_138) dX6_wentOn_10 ?_
  refine rv_getP hx hb ht ui_X4 hown hK hM hR hi 2 (by decide) (ht _ uw_83) dX6_wentOn_13 ?_
  refine m_callRI (val := whC v (v.2.1 i 10)) (As := [.int (v.2.1 i 10)]) (rest := [.int (whC v (v.2.2 j 1))]) ⟨hx, hb, hml, hown, ht⟩ (k_X6_wheelAt l g A M b π v (v.2.1 i 10) hR) (cwV 1 ht (gU uw_376 uw_377 uw_378 uw_35 uw_379) rfl rfl rfl (by decide +kernel) ⟨by decide, by decide⟩) hK hM hS (m_recv hK hM hR.AW hR.W rfl) rfl hl.1 rfl (Nat.le_of_ble_eq_true rfl) dX6_wentOn_16 ⟨by decide, by decide⟩ (fun H locs hM hS => ?_)
  refine lv_isub hx hb dX6_wentOn_19 ?_
  refine lv_topi (fun n1 e_n1 => ?_)
  refine lv_istore_n (lv' := [(3, .int (n1)), (0, .ref (b)), (1, .ref (b + 3 + 2 * i)), (2, .ref (b + 15 + π j))]) hx hb dX6_wentOn_20 rfl hl (by decide) rfl (fun ls hl => ?_)
  refine lv_iload_n hx hb dX6_wentOn_21 rfl (lv_at hl 0 rfl) ?_
  refine lv_if_ge (tgt := 32) hx hb dX6_wentOn_22 (by decide) (fun c_22 => ?_) (fun c_22 => ?_)
  · refine lv_aload_n hx hb dX6_wentOn_32 rfl (lv_at hl 1 rfl) ?_
    refine rv_getW hx hb ht ui_X6 hown hK hM hR 1 (by decide) (ht _ uw_190) dX6_wentOn_33 ?_
    refine lv_iconst (v := 1) hx hb dX6_wentOn_36 (by first | rfl | decide) ?_
    refine lv_icmp_ne (tgt := 60) hx hb dX6_wentOn_37 (by decide) (fun c_37 => ?_) (fun c_37 => ?_)
    · refine lv_iload_n hx hb dX6_wentOn_60 rfl (lv_at hl 0 rfl) ?_
      subst hQ
      exact m_zret hx hb hr rfl hlk hK hM hS dX6_wentOn_61 (⟨by first | exact wen_a e_n1 c_22 c_37 | exact wen_b e_n1 c_22 c_37 | exact wen_c e_n1 c_22 e_n2 c_37 | exact wen_d e_n1 c_22 e_n2 c_37, hMM⟩)
    · refine lv_iload_n hx hb dX6_wentOn_40 rfl (lv_at hl 0 rfl) ?_
      refine lv_aload_n hx hb dX6_wentOn_41 rfl (lv_at hl 1 rfl) ?_
      refine rv_getW hx hb ht ui_X6 hown hK hM hR 0 (by decide) (ht _ uw_188) dX6_wentOn_42 ?_
      refine lv_aload_n hx hb dX6_wentOn_45 rfl (lv_at hl 1 rfl) ?_
      refine lv_aload_n hx hb dX6_wentOn_46 rfl (lv_at hl 1 rfl) ?_
      refine lv_aload_n hx hb dX6_wentOn_47 rfl (lv_at hl 2 rfl) ?_
      refine lv_aload_n hx hb dX6_wentOn_48 rfl (lv_at hl 3 rfl) ?_
      refine m_callRI (val := expC v i j) (As := [.ref (b + 3 + 2 * i), .ref (b + 15 + π j)]) (rest := [.ref (b), .int (v.1 0), .int (n1)]) ⟨hx, hb, hml, hown, ht⟩ (k_X6_expectedTips l g A M b π v i j hR hi hj) (cwV 2 ht (gU uw_384 uw_386 uw_4 uw_35 uw_387) rfl rfl rfl (by decide +kernel) ⟨by decide, by decide⟩) hK hM hS (m_recv hK hM hR.AW hR.W rfl) rfl hl.1 rfl (Nat.le_of_ble_eq_true rfl) dX6_wentOn_49 ⟨by decide, by decide⟩ (fun H locs hM hS => ?_)
      refine lv_iload_n hx hb dX6_wentOn_52 rfl (lv_at hl 0 rfl) ?_
      refine lv_isub hx hb dX6_wentOn_53 ?_
      refine m_callRI (val := rouC v ((expC v i j) - (n1))) (As := [.int ((expC v i j) - (n1))]) (rest := [.int (v.1 0), .int (n1)]) ⟨hx, hb, hml, hown, ht⟩ (k_X6_roundsFor l g A M b π v ((expC v i j) - (n1)) hR) (cwV 1 ht (gU uw_388 uw_390 uw_5 uw_35 uw_391) rfl rfl rfl (by decide +kernel) ⟨by decide, by decide⟩) hK hM hS (m_recv hK hM hR.AW hR.W rfl) rfl hl.1 rfl (Nat.le_of_ble_eq_true rfl) dX6_wentOn_54 ⟨by decide, by decide⟩ (fun H locs hM hS => ?_)
      refine lv_imul hx hb dX6_wentOn_57 ?_
      refine lv_iadd hx hb dX6_wentOn_58 ?_
      refine lv_istore_n (lv' := [(3, .int ((n1) + ((v.1 0) * (rouC v ((expC v i j) - (n1)))))), (0, .ref (b)), (1, .ref (b + 3 + 2 * i)), (2, .ref (b + 15 + π j))]) hx hb dX6_wentOn_59 rfl hl (by decide) rfl (fun ls hl => ?_)
      refine lv_iload_n hx hb dX6_wentOn_60 rfl (lv_at hl 0 rfl) ?_
      subst hQ
      exact m_zret hx hb hr rfl hlk hK hM hS dX6_wentOn_61 (⟨by first | exact wen_a e_n1 c_22 c_37 | exact wen_b e_n1 c_22 c_37 | exact wen_c e_n1 c_22 e_n2 c_37 | exact wen_d e_n1 c_22 e_n2 c_37, hMM⟩)
  · refine lv_iload_n hx hb dX6_wentOn_25 rfl (lv_at hl 0 rfl) ?_
    refine lv_aload_n hx hb dX6_wentOn_26 rfl (lv_at hl 1 rfl) ?_
    refine rv_getW hx hb ht ui_X6 hown hK hM hR 0 (by decide) (ht _ uw_188) dX6_wentOn_27 ?_
    refine lv_iadd hx hb dX6_wentOn_30 ?_
    refine lv_topi (fun n2 e_n2 => ?_)
    refine lv_istore_n (lv' := [(3, .int (n2)), (0, .ref (b)), (1, .ref (b + 3 + 2 * i)), (2, .ref (b + 15 + π j))]) hx hb dX6_wentOn_31 rfl hl (by decide) rfl (fun ls hl => ?_)
    refine lv_aload_n hx hb dX6_wentOn_32 rfl (lv_at hl 1 rfl) ?_
    refine rv_getW hx hb ht ui_X6 hown hK hM hR 1 (by decide) (ht _ uw_190) dX6_wentOn_33 ?_
    refine lv_iconst (v := 1) hx hb dX6_wentOn_36 (by first | rfl | decide) ?_
    refine lv_icmp_ne (tgt := 60) hx hb dX6_wentOn_37 (by decide) (fun c_37 => ?_) (fun c_37 => ?_)
    · refine lv_iload_n hx hb dX6_wentOn_60 rfl (lv_at hl 0 rfl) ?_
      subst hQ
      exact m_zret hx hb hr rfl hlk hK hM hS dX6_wentOn_61 (⟨by first | exact wen_a e_n1 c_22 c_37 | exact wen_b e_n1 c_22 c_37 | exact wen_c e_n1 c_22 e_n2 c_37 | exact wen_d e_n1 c_22 e_n2 c_37, hMM⟩)
    · refine lv_iload_n hx hb dX6_wentOn_40 rfl (lv_at hl 0 rfl) ?_
      refine lv_aload_n hx hb dX6_wentOn_41 rfl (lv_at hl 1 rfl) ?_
      refine rv_getW hx hb ht ui_X6 hown hK hM hR 0 (by decide) (ht _ uw_188) dX6_wentOn_42 ?_
      refine lv_aload_n hx hb dX6_wentOn_45 rfl (lv_at hl 1 rfl) ?_
      refine lv_aload_n hx hb dX6_wentOn_46 rfl (lv_at hl 1 rfl) ?_
      refine lv_aload_n hx hb dX6_wentOn_47 rfl (lv_at hl 2 rfl) ?_
      refine lv_aload_n hx hb dX6_wentOn_48 rfl (lv_at hl 3 rfl) ?_
      refine m_callRI (val := expC v i j) (As := [.ref (b + 3 + 2 * i), .ref (b + 15 + π j)]) (rest := [.ref (b), .int (v.1 0), .int (n2)]) ⟨hx, hb, hml, hown, ht⟩ (k_X6_expectedTips l g A M b π v i j hR hi hj) (cwV 2 ht (gU uw_384 uw_386 uw_4 uw_35 uw_387) rfl rfl rfl (by decide +kernel) ⟨by decide, by decide⟩) hK hM hS (m_recv hK hM hR.AW hR.W rfl) rfl hl.1 rfl (Nat.le_of_ble_eq_true rfl) dX6_wentOn_49 ⟨by decide, by decide⟩ (fun H locs hM hS => ?_)
      refine lv_iload_n hx hb dX6_wentOn_52 rfl (lv_at hl 0 rfl) ?_
      refine lv_isub hx hb dX6_wentOn_53 ?_
      refine m_callRI (val := rouC v ((expC v i j) - (n2))) (As := [.int ((expC v i j) - (n2))]) (rest := [.int (v.1 0), .int (n2)]) ⟨hx, hb, hml, hown, ht⟩ (k_X6_roundsFor l g A M b π v ((expC v i j) - (n2)) hR) (cwV 1 ht (gU uw_388 uw_390 uw_5 uw_35 uw_391) rfl rfl rfl (by decide +kernel) ⟨by decide, by decide⟩) hK hM hS (m_recv hK hM hR.AW hR.W rfl) rfl hl.1 rfl (Nat.le_of_ble_eq_true rfl) dX6_wentOn_54 ⟨by decide, by decide⟩ (fun H locs hM hS => ?_)
      refine lv_imul hx hb dX6_wentOn_57 ?_
      refine lv_iadd hx hb dX6_wentOn_58 ?_
      refine lv_istore_n (lv' := [(3, .int ((n2) + ((v.1 0) * (rouC v ((expC v i j) - (n2)))))), (0, .ref (b)), (1, .ref (b + 3 + 2 * i)), (2, .ref (b + 15 + π j))]) hx hb dX6_wentOn_59 rfl hl (by decide) rfl (fun ls hl => ?_)
      refine lv_iload_n hx hb dX6_wentOn_60 rfl (lv_at hl 0 rfl) ?_
      subst hQ
      exact m_zret hx hb hr rfl hlk hK hM hS dX6_wentOn_61 (⟨by first | exact wen_a e_n1 c_22 c_37 | exact wen_b e_n1 c_22 c_37 | exact wen_c e_n1 c_22 e_n2 c_37 | exact wen_d e_n1 c_22 e_n2 c_37, hMM⟩)

set_option maxHeartbeats 4000000 in
set_option maxRecDepth 100000 in
/-- what a runner tells comes into the ledger -/
theorem k_X6_hear (l : Launch) (g : GG) (A : Nat → Prop) (M0 : MM) (b : Nat) (π : Nat → Nat) (v : VV) (j : Nat) (hR : RepV g A M0 b π v) (hj : j < 20) : Met l yX6_hear (Uw yX6_hear cX6_hear 4 (Option.none : Option ClassFile.FieldType)) (rmD 2) (PreM [.ref (b), .ref (b + 15 + π j)] g A M0) (PosV (fun M1 => RepV g A M1 b π (heaC v j) ∧ FrV b M0 M1) g A) 0 0 A := by
  refine mk_Met (own := RX6) rfl rfl (by decide) (Nat.le_of_ble_eq_true rfl) ?_
  intro p e s m below meth c ls aa Q haa hQ hx hb hr hlk hml hown hts hK hM hS hl hnm
  obtain ⟨M, hMM⟩ : ∃ M, M = M0 := ⟨_, rfl⟩
  rw [← hMM] at hM hR
  have ht : ∀ w ∈ lw_good, w.before _ s = true := fun w h => hts w (List.mem_cons_of_mem _ h)
  have hF : FrV b M0 M := by rw [hMM]; exact FrV.rf
  have hl : lv_has ls 4 [(0, .ref (b)), (1, .ref (b + 15 + π j))] := hl
  rcases gxn_cases (n := 6) (by decide) (v.2.2 j 0) with ⟨e1, h1⟩ | ⟨i, hi, ex, e1⟩
  · refine lv_aload_n hx hb dX6_hear_0 rfl (lv_at hl 0 rfl) ?_
    refine lv_aload_n hx hb dX6_hear_1 rfl (lv_at hl 1 rfl) ?_
    refine rv_getR hx hb ht ui_X5 hown hK hM hR hj 0 (by decide) (ht _ uw_165) dX6_hear_2 ?_
    refine m_callRQ (val := none) (w := .null) (rfl) (As := [.int (v.2.2 j 0)]) (rest := []) ⟨hx, hb, hml, hown, ht⟩ (k_X6_gaugeAt l g A M b π v (v.2.2 j 0) none hR e1) (cwV 1 ht (gU uw_336 uw_337 uw_338 uw_35 uw_339) rfl rfl rfl (by decide +kernel) ⟨by decide, by decide⟩) hK hM hS (m_recv hK hM hR.AW hR.W rfl) rfl hl.1 rfl (Nat.le_of_ble_eq_true rfl) dX6_hear_5 ⟨by decide, by decide⟩ (fun H locs hM hS => ?_)
    refine lv_astore_nN (lv' := [(2, .null), (0, .ref (b)), (1, .ref (b + 15 + π j))]) hx hb dX6_hear_8 rfl hl (by decide) rfl (fun ls hl => ?_)
    refine lv_aload_nN hx hb dX6_hear_9 rfl (lv_at hl 0 rfl) ?_
    refine lv_ifnonnullN hx hb dX6_hear_10 ?_
    subst hQ
    exact m_vret hx hb hr hlk hK hM hS dX6_hear_13 (⟨RepV.eq hR (by unfold heaC; rw [e1]), hF⟩)
  · refine lv_aload_n hx hb dX6_hear_0 rfl (lv_at hl 0 rfl) ?_
    refine lv_aload_n hx hb dX6_hear_1 rfl (lv_at hl 1 rfl) ?_
    refine rv_getR hx hb ht ui_X5 hown hK hM hR hj 0 (by decide) (ht _ uw_165) dX6_hear_2 ?_
    refine m_callRQ (val := some (b + 3 + 2 * i)) (w := .ref (b + 3 + 2 * i)) (rfl) (As := [.int (v.2.2 j 0)]) (rest := []) ⟨hx, hb, hml, hown, ht⟩ (k_X6_gaugeAt l g A M b π v (v.2.2 j 0) (some i) hR e1) (cwV 1 ht (gU uw_336 uw_337 uw_338 uw_35 uw_339) rfl rfl rfl (by decide +kernel) ⟨by decide, by decide⟩) hK hM hS (m_recv hK hM hR.AW hR.W rfl) rfl hl.1 rfl (Nat.le_of_ble_eq_true rfl) dX6_hear_5 ⟨by decide, by decide⟩ (fun H locs hM hS => ?_)
    refine lv_astore_n (lv' := [(2, .ref (b + 3 + 2 * i)), (0, .ref (b)), (1, .ref (b + 15 + π j))]) hx hb dX6_hear_8 rfl hl (by decide) rfl (fun ls hl => ?_)
    refine lv_aload_n hx hb dX6_hear_9 rfl (lv_at hl 0 rfl) ?_
    refine lv_ifnonnull (tgt := 14) hx hb dX6_hear_10 (by decide) ?_
    refine lv_aload_n hx hb dX6_hear_14 rfl (lv_at hl 0 rfl) ?_
    refine rv_getpg hx hb ht ui_X0 hown hK hM hR hi (ht _ uw_138) dX6_hear_15 ?_
    refine lv_astore_n (lv' := [(3, .ref (b + 4 + 2 * i)), (2, .ref (b + 3 + 2 * i)), (0, .ref (b)), (1, .ref (b + 15 + π j))]) hx hb dX6_hear_18 rfl hl (by decide) rfl (fun ls hl => ?_)
    refine lv_aload_n hx hb dX6_hear_19 rfl (lv_at hl 3 rfl) ?_
    refine rv_getR hx hb ht ui_X5 hown hK hM hR hj 2 (by decide) (ht _ uw_170) dX6_hear_20 ?_
    refine lv_aload_n hx hb dX6_hear_23 rfl (lv_at hl 0 rfl) ?_
    refine rv_getP hx hb ht ui_X4 hown hK hM hR hi 1 (by decide) (ht _ uw_79) dX6_hear_24 ?_
    refine lv_icmp_ge (tgt := 43) hx hb dX6_hear_27 (by decide) (fun c_27 => ?_) (fun c_27 => ?_)
    · refine lv_aload_n hx hb dX6_hear_43 rfl (lv_at hl 0 rfl) ?_
      refine rv_getP hx hb ht ui_X4 hown hK hM hR hi 4 (by decide) (ht _ uw_88) dX6_hear_44 ?_
      refine lv_if_le (tgt := 93) hx hb dX6_hear_47 (by decide) (fun c_47 => ?_) (fun c_47 => ?_)
      · refine lv_aload_n hx hb dX6_hear_93 rfl (lv_at hl 0 rfl) ?_
        refine lv_dup hx hb dX6_hear_94 rfl ?_
        refine rv_getP hx hb ht ui_X4 hown hK hM hR hi 0 (by decide) (ht _ uw_76) dX6_hear_95 ?_
        refine lv_aload_n hx hb dX6_hear_98 rfl (lv_at hl 2 rfl) ?_
        refine lv_aload_n hx hb dX6_hear_99 rfl (lv_at hl 1 rfl) ?_
        refine lv_aload_n hx hb dX6_hear_100 rfl (lv_at hl 3 rfl) ?_
        refine m_callRI (val := wenC v i j) (As := [.ref (b + 3 + 2 * i), .ref (b + 15 + π j)]) (rest := [.int (v.2.1 i 8), .ref (b + 4 + 2 * i)]) ⟨hx, hb, hml, hown, ht⟩ (k_X6_wentOn l g A M b π v i j hR hi hj) (cwV 2 ht (gU uw_380 uw_382 uw_3 uw_35 uw_383) rfl rfl rfl (by decide +kernel) ⟨by decide, by decide⟩) hK hM hS (m_recv hK hM hR.AW hR.W rfl) rfl hl.1 rfl (Nat.le_of_ble_eq_true rfl) dX6_hear_101 ⟨by decide, by decide⟩ (fun H locs hM hS => ?_)
        refine lv_iadd hx hb dX6_hear_104 ?_
        refine rv_putP hx hb ht ui_X4 hown hK hM hS hR hF hi 0 (by decide) (ht _ uw_76) dX6_hear_105 (fun M H locs hM hR hF hS => ?_)
        refine lv_aload_n hx hb dX6_hear_108 rfl (lv_at hl 0 rfl) ?_
        refine lv_dup hx hb dX6_hear_109 rfl ?_
        refine rv_getP hx hb ht ui_X4 hown hK hM hR hi 4 (by decide) (ht _ uw_88) dX6_hear_110 ?_
        refine lv_iconst (v := 1) hx hb dX6_hear_113 (by first | rfl | decide) ?_
        refine lv_iadd hx hb dX6_hear_114 ?_
        refine rv_putP hx hb ht ui_X4 hown hK hM hS hR hF hi 4 (by decide) (ht _ uw_88) dX6_hear_115 (fun M H locs hM hR hF hS => ?_)
        refine lv_aload_n hx hb dX6_hear_118 rfl (lv_at hl 0 rfl) ?_
        refine lv_aload_n hx hb dX6_hear_119 rfl (lv_at hl 3 rfl) ?_
        refine rv_getR hx hb ht ui_X5 hown hK hM hR hj 2 (by decide) (ht _ uw_170) dX6_hear_120 ?_
        refine rv_putP hx hb ht ui_X4 hown hK hM hS hR hF hi 1 (by decide) (ht _ uw_79) dX6_hear_123 (fun M H locs hM hR hF hS => ?_)
        refine lv_aload_n hx hb dX6_hear_126 rfl (lv_at hl 0 rfl) ?_
        refine lv_aload_n hx hb dX6_hear_127 rfl (lv_at hl 3 rfl) ?_
        refine rv_getR hx hb ht ui_X5 hown hK hM hR hj 1 (by decide) (ht _ uw_167) dX6_hear_128 ?_
        refine rv_putP hx hb ht ui_X4 hown hK hM hS hR hF hi 2 (by decide) (ht _ uw_83) dX6_hear_131 (fun M H locs hM hR hF hS => ?_)
        refine lv_aload_n hx hb dX6_hear_134 rfl (lv_at hl 0 rfl) ?_
        refine lv_aload_n hx hb dX6_hear_135 rfl (lv_at hl 3 rfl) ?_
        refine rv_getR hx hb ht ui_X5 hown hK hM hR hj 3 (by decide) (ht _ uw_173) dX6_hear_136 ?_
        refine rv_putP hx hb ht ui_X4 hown hK hM hS hR hF hi 3 (by decide) (ht _ uw_85) dX6_hear_139 (fun M H locs hM hR hF hS => ?_)
        subst hQ
        exact m_vret hx hb hr hlk hK hM hS dX6_hear_142 (⟨RepV.eq hR (by first | exact hea_take1 e1 c_27 c_47 | exact hea_take2 e1 c_27 c_58 | exact hea_take3 e1 c_27 c_77), hF⟩)
      · refine lv_aload_n hx hb dX6_hear_50 rfl (lv_at hl 3 rfl) ?_
        refine rv_getR hx hb ht ui_X5 hown hK hM hR hj 2 (by decide) (ht _ uw_170) dX6_hear_51 ?_
        refine lv_aload_n hx hb dX6_hear_54 rfl (lv_at hl 0 rfl) ?_
        refine rv_getP hx hb ht ui_X4 hown hK hM hR hi 1 (by decide) (ht _ uw_79) dX6_hear_55 ?_
        refine lv_icmp_ne (tgt := 93) hx hb dX6_hear_58 (by decide) (fun c_58 => ?_) (fun c_58 => ?_)
        · refine lv_aload_n hx hb dX6_hear_93 rfl (lv_at hl 0 rfl) ?_
          refine lv_dup hx hb dX6_hear_94 rfl ?_
          refine rv_getP hx hb ht ui_X4 hown hK hM hR hi 0 (by decide) (ht _ uw_76) dX6_hear_95 ?_
          refine lv_aload_n hx hb dX6_hear_98 rfl (lv_at hl 2 rfl) ?_
          refine lv_aload_n hx hb dX6_hear_99 rfl (lv_at hl 1 rfl) ?_
          refine lv_aload_n hx hb dX6_hear_100 rfl (lv_at hl 3 rfl) ?_
          refine m_callRI (val := wenC v i j) (As := [.ref (b + 3 + 2 * i), .ref (b + 15 + π j)]) (rest := [.int (v.2.1 i 8), .ref (b + 4 + 2 * i)]) ⟨hx, hb, hml, hown, ht⟩ (k_X6_wentOn l g A M b π v i j hR hi hj) (cwV 2 ht (gU uw_380 uw_382 uw_3 uw_35 uw_383) rfl rfl rfl (by decide +kernel) ⟨by decide, by decide⟩) hK hM hS (m_recv hK hM hR.AW hR.W rfl) rfl hl.1 rfl (Nat.le_of_ble_eq_true rfl) dX6_hear_101 ⟨by decide, by decide⟩ (fun H locs hM hS => ?_)
          refine lv_iadd hx hb dX6_hear_104 ?_
          refine rv_putP hx hb ht ui_X4 hown hK hM hS hR hF hi 0 (by decide) (ht _ uw_76) dX6_hear_105 (fun M H locs hM hR hF hS => ?_)
          refine lv_aload_n hx hb dX6_hear_108 rfl (lv_at hl 0 rfl) ?_
          refine lv_dup hx hb dX6_hear_109 rfl ?_
          refine rv_getP hx hb ht ui_X4 hown hK hM hR hi 4 (by decide) (ht _ uw_88) dX6_hear_110 ?_
          refine lv_iconst (v := 1) hx hb dX6_hear_113 (by first | rfl | decide) ?_
          refine lv_iadd hx hb dX6_hear_114 ?_
          refine rv_putP hx hb ht ui_X4 hown hK hM hS hR hF hi 4 (by decide) (ht _ uw_88) dX6_hear_115 (fun M H locs hM hR hF hS => ?_)
          refine lv_aload_n hx hb dX6_hear_118 rfl (lv_at hl 0 rfl) ?_
          refine lv_aload_n hx hb dX6_hear_119 rfl (lv_at hl 3 rfl) ?_
          refine rv_getR hx hb ht ui_X5 hown hK hM hR hj 2 (by decide) (ht _ uw_170) dX6_hear_120 ?_
          refine rv_putP hx hb ht ui_X4 hown hK hM hS hR hF hi 1 (by decide) (ht _ uw_79) dX6_hear_123 (fun M H locs hM hR hF hS => ?_)
          refine lv_aload_n hx hb dX6_hear_126 rfl (lv_at hl 0 rfl) ?_
          refine lv_aload_n hx hb dX6_hear_127 rfl (lv_at hl 3 rfl) ?_
          refine rv_getR hx hb ht ui_X5 hown hK hM hR hj 1 (by decide) (ht _ uw_167) dX6_hear_128 ?_
          refine rv_putP hx hb ht ui_X4 hown hK hM hS hR hF hi 2 (by decide) (ht _ uw_83) dX6_hear_131 (fun M H locs hM hR hF hS => ?_)
          refine lv_aload_n hx hb dX6_hear_134 rfl (lv_at hl 0 rfl) ?_
          refine lv_aload_n hx hb dX6_hear_135 rfl (lv_at hl 3 rfl) ?_
          refine rv_getR hx hb ht ui_X5 hown hK hM hR hj 3 (by decide) (ht _ uw_173) dX6_hear_136 ?_
          refine rv_putP hx hb ht ui_X4 hown hK hM hS hR hF hi 3 (by decide) (ht _ uw_85) dX6_hear_139 (fun M H locs hM hR hF hS => ?_)
          subst hQ
          exact m_vret hx hb hr hlk hK hM hS dX6_hear_142 (⟨RepV.eq hR (by first | exact hea_take1 e1 c_27 c_47 | exact hea_take2 e1 c_27 c_58 | exact hea_take3 e1 c_27 c_77), hF⟩)
        · refine lv_aload_n hx hb dX6_hear_61 rfl (lv_at hl 2 rfl) ?_
          refine lv_aload_n hx hb dX6_hear_62 rfl (lv_at hl 3 rfl) ?_
          refine rv_getR hx hb ht ui_X5 hown hK hM hR hj 1 (by decide) (ht _ uw_167) dX6_hear_63 ?_
          refine m_callRI (val := whC v (v.2.2 j 1)) (As := [.int (v.2.2 j 1)]) (rest := []) ⟨hx, hb, hml, hown, ht⟩ (k_X6_wheelAt l g A M b π v (v.2.2 j 1) hR) (cwV 1 ht (gU uw_376 uw_377 uw_378 uw_35 uw_379) rfl rfl rfl (by decide +kernel) ⟨by decide, by decide⟩) hK hM hS (m_recv hK hM hR.AW hR.W rfl) rfl hl.1 rfl (Nat.le_of_ble_eq_true rfl) dX6_hear_66 ⟨by decide, by decide⟩ (fun H locs hM hS => ?_)
          refine lv_aload_n hx hb dX6_hear_69 rfl (lv_at hl 2 rfl) ?_
          refine lv_aload_n hx hb dX6_hear_70 rfl (lv_at hl 0 rfl) ?_
          refine rv_getP hx hb ht ui_X4 hown hK hM hR hi 2 (by decide) (ht _ uw_83) dX6_hear_71 ?_
          refine m_callRI (val := whC v (v.2.1 i 10)) (As := [.int (v.2.1 i 10)]) (rest := [.int (whC v (v.2.2 j 1))]) ⟨hx, hb, hml, hown, ht⟩ (k_X6_wheelAt l g A M b π v (v.2.1 i 10) hR) (cwV 1 ht (gU uw_376 uw_377 uw_378 uw_35 uw_379) rfl rfl rfl (by decide +kernel) ⟨by decide, by decide⟩) hK hM hS (m_recv hK hM hR.AW hR.W rfl) rfl hl.1 rfl (Nat.le_of_ble_eq_true rfl) dX6_hear_74 ⟨by decide, by decide⟩ (fun H locs hM hS => ?_)
          refine lv_icmp_ne (tgt := 93) hx hb dX6_hear_77 (by decide) (fun c_77 => ?_) (fun c_77 => ?_)
          · refine lv_aload_n hx hb dX6_hear_93 rfl (lv_at hl 0 rfl) ?_
            refine lv_dup hx hb dX6_hear_94 rfl ?_
            refine rv_getP hx hb ht ui_X4 hown hK hM hR hi 0 (by decide) (ht _ uw_76) dX6_hear_95 ?_
            refine lv_aload_n hx hb dX6_hear_98 rfl (lv_at hl 2 rfl) ?_
            refine lv_aload_n hx hb dX6_hear_99 rfl (lv_at hl 1 rfl) ?_
            refine lv_aload_n hx hb dX6_hear_100 rfl (lv_at hl 3 rfl) ?_
            refine m_callRI (val := wenC v i j) (As := [.ref (b + 3 + 2 * i), .ref (b + 15 + π j)]) (rest := [.int (v.2.1 i 8), .ref (b + 4 + 2 * i)]) ⟨hx, hb, hml, hown, ht⟩ (k_X6_wentOn l g A M b π v i j hR hi hj) (cwV 2 ht (gU uw_380 uw_382 uw_3 uw_35 uw_383) rfl rfl rfl (by decide +kernel) ⟨by decide, by decide⟩) hK hM hS (m_recv hK hM hR.AW hR.W rfl) rfl hl.1 rfl (Nat.le_of_ble_eq_true rfl) dX6_hear_101 ⟨by decide, by decide⟩ (fun H locs hM hS => ?_)
            refine lv_iadd hx hb dX6_hear_104 ?_
            refine rv_putP hx hb ht ui_X4 hown hK hM hS hR hF hi 0 (by decide) (ht _ uw_76) dX6_hear_105 (fun M H locs hM hR hF hS => ?_)
            refine lv_aload_n hx hb dX6_hear_108 rfl (lv_at hl 0 rfl) ?_
            refine lv_dup hx hb dX6_hear_109 rfl ?_
            refine rv_getP hx hb ht ui_X4 hown hK hM hR hi 4 (by decide) (ht _ uw_88) dX6_hear_110 ?_
            refine lv_iconst (v := 1) hx hb dX6_hear_113 (by first | rfl | decide) ?_
            refine lv_iadd hx hb dX6_hear_114 ?_
            refine rv_putP hx hb ht ui_X4 hown hK hM hS hR hF hi 4 (by decide) (ht _ uw_88) dX6_hear_115 (fun M H locs hM hR hF hS => ?_)
            refine lv_aload_n hx hb dX6_hear_118 rfl (lv_at hl 0 rfl) ?_
            refine lv_aload_n hx hb dX6_hear_119 rfl (lv_at hl 3 rfl) ?_
            refine rv_getR hx hb ht ui_X5 hown hK hM hR hj 2 (by decide) (ht _ uw_170) dX6_hear_120 ?_
            refine rv_putP hx hb ht ui_X4 hown hK hM hS hR hF hi 1 (by decide) (ht _ uw_79) dX6_hear_123 (fun M H locs hM hR hF hS => ?_)
            refine lv_aload_n hx hb dX6_hear_126 rfl (lv_at hl 0 rfl) ?_
            refine lv_aload_n hx hb dX6_hear_127 rfl (lv_at hl 3 rfl) ?_
            refine rv_getR hx hb ht ui_X5 hown hK hM hR hj 1 (by decide) (ht _ uw_167) dX6_hear_128 ?_
            refine rv_putP hx hb ht ui_X4 hown hK hM hS hR hF hi 2 (by decide) (ht _ uw_83) dX6_hear_131 (fun M H locs hM hR hF hS => ?_)
            refine lv_aload_n hx hb dX6_hear_134 rfl (lv_at hl 0 rfl) ?_
            refine lv_aload_n hx hb dX6_hear_135 rfl (lv_at hl 3 rfl) ?_
            refine rv_getR hx hb ht ui_X5 hown hK hM hR hj 3 (by decide) (ht _ uw_173) dX6_hear_136 ?_
            refine rv_putP hx hb ht ui_X4 hown hK hM hS hR hF hi 3 (by decide) (ht _ uw_85) dX6_hear_139 (fun M H locs hM hR hF hS => ?_)
            subst hQ
            exact m_vret hx hb hr hlk hK hM hS dX6_hear_142 (⟨RepV.eq hR (by first | exact hea_take1 e1 c_27 c_47 | exact hea_take2 e1 c_27 c_58 | exact hea_take3 e1 c_27 c_77), hF⟩)
          · refine lv_aload_n hx hb dX6_hear_80 rfl (lv_at hl 0 rfl) ?_
            refine lv_dup hx hb dX6_hear_81 rfl ?_
            refine rv_getP hx hb ht ui_X4 hown hK hM hR hi 6 (by decide) (ht _ uw_94) dX6_hear_82 ?_
            refine lv_iconst (v := 1) hx hb dX6_hear_85 (by first | rfl | decide) ?_
            refine lv_iadd hx hb dX6_hear_86 ?_
            refine rv_putP hx hb ht ui_X4 hown hK hM hS hR hF hi 6 (by decide) (ht _ uw_94) dX6_hear_87 (fun M H locs hM hR hF hS => ?_)
            refine lv_goto (tgt := 142) hx hb dX6_hear_90 (by decide) ?_
            subst hQ
            exact m_vret hx hb hr hlk hK hM hS dX6_hear_142 (⟨RepV.eq hR (hea_twice e1 c_27 (Int32.not_le.mp c_47) c_58 c_77), hF⟩)
    · refine lv_aload_n hx hb dX6_hear_30 rfl (lv_at hl 0 rfl) ?_
      refine lv_dup hx hb dX6_hear_31 rfl ?_
      refine rv_getP hx hb ht ui_X4 hown hK hM hR hi 5 (by decide) (ht _ uw_91) dX6_hear_32 ?_
      refine lv_iconst (v := 1) hx hb dX6_hear_35 (by first | rfl | decide) ?_
      refine lv_iadd hx hb dX6_hear_36 ?_
      refine rv_putP hx hb ht ui_X4 hown hK hM hS hR hF hi 5 (by decide) (ht _ uw_91) dX6_hear_37 (fun M H locs hM hR hF hS => ?_)
      refine lv_goto (tgt := 142) hx hb dX6_hear_40 (by decide) ?_
      subst hQ
      exact m_vret hx hb hr hlk hK hM hS dX6_hear_142 (⟨RepV.eq hR (hea_late e1 (Int32.not_le.mp c_27)), hF⟩)

