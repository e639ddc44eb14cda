def oSet (c : CS) (x y : Int32) : Int32 × CS := if x = 0 ∧ ¬ winC y 4 60 = 0 then (c.1.1 0, recX c (chgC c.1 (onN c.1) y)) else if x = 1 ∧ ¬ winC y 0 1 = 0 then (c.1.1 1, recX c (vW c.1 1 y)) else (-1000002, c)
theorem oSet_a {c : CS} {x y : Int32} (h : x = 0) (h2 : ¬ winC y 4 60 = 0) : oSet c x y = (c.1.1 0, recX c (chgC c.1 (onN c.1) y)) := if_pos ⟨h, h2⟩
theorem oSet_b {c : CS} {x y : Int32} (h : x = 1) (h2 : ¬ winC y 0 1 = 0) : oSet c x y = (c.1.1 1, recX c (vW c.1 1 y)) := (if_neg (fun z => absurd (z.1.symm.trans h) (by decide))).trans (if_pos ⟨h, h2⟩)
theorem oSet_c {c : CS} {x y : Int32} (h : ¬ x = 0) (h2 : ¬ x = 1) : oSet c x y = (-1000002, c) := (if_neg (fun z => h z.1)).trans (if_neg (fun z => h2 z.1))
theorem oSet_d {c : CS} {x y : Int32} (h : x = 0) (h2 : winC y 4 60 = 0) : oSet c x y = (-1000002, c) := (if_neg (fun z => z.2 h2)).trans (if_neg (fun z => absurd (h.symm.trans z.1) (by decide)))
theorem oSet_e {c : CS} {x y : Int32} (h : ¬ x = 0) (h2 : winC y 0 1 = 0) : oSet c x y = (-1000002, c) := (if_neg (fun z => h z.1)).trans (if_neg (fun z => z.2 h2))
def gauV (v : VV) (i : Nat) (a b d w : Int32) : VV := vG (vG (vG (vG v i 0 a) i 1 b) i 2 d) i 3 w
def oGauge (c : CS) (x a b d w : Int32) : Int32 × CS := match gxn 6 x with
  | none => (-1000001, c)
  | some i => if winC a 1 9 = 0 ∨ winC b 1 50 = 0 ∨ winC d 0 200 = 0 ∨ winC w 0 9 = 0 then (-1000002, c) else ((gauV c.1 i a b d w).2.1 i 4, recX c (gauV c.1 i a b d w))
theorem oGauge_n {c : CS} {x a b d w : Int32} (e : gxn 6 x = none) : oGauge c x a b d w = (-1000001, c) := by unfold oGauge; rw [e]
theorem oGauge_b {c : CS} {x a b d w : Int32} {i : Nat} (e : gxn 6 x = some i) (h : winC a 1 9 = 0 ∨ winC b 1 50 = 0 ∨ winC d 0 200 = 0 ∨ winC w 0 9 = 0) : oGauge c x a b d w = (-1000002, c) := by unfold oGauge; rw [e]; exact if_pos h
theorem oGauge_y {c : CS} {x a b d w : Int32} {i : Nat} (e : gxn 6 x = some i) (h1 : ¬ winC a 1 9 = 0) (h2 : ¬ winC b 1 50 = 0) (h3 : ¬ winC d 0 200 = 0) (h4 : ¬ winC w 0 9 = 0) : oGauge c x a b d w = ((gauV c.1 i a b d w).2.1 i 4, recX c (gauV c.1 i a b d w)) := by unfold oGauge; rw [e]; exact if_neg (fun z => z.elim h1 (fun z => z.elim h2 (fun z => z.elim h3 h4)))
def oRain (c : CS) (x y : Int32) : Int32 × CS := if winC x 0 99 = 0 ∨ winC y 1 24 = 0 then (-1000002, c) else if ¬ c.1.1 2 + y ≤ 9999 then (-1000004, c) else (pasT x c.1 y.toNatClampNeg, recX c (pasC x c.1 y.toNatClampNeg))
def oSend (c : CS) (x : Int32) : Int32 × CS := match gxn 6 x with
  | none => (-1000001, c)
  | some i => if nI 20 ≤ c.1.1 3 then (-1000004, c) else (whC (senC c.1 i (onN c.1)) ((senC c.1 i (onN c.1)).2.1 i 5), recX c (senC c.1 i (onN c.1)))
def ruN (c : CS) (x : Int32) : Option Nat := if c.1.1 3 ≤ x then none else gxn 20 x
def oLose (c : CS) (x : Int32) : Int32 × CS := match ruN c x with
  | none => (-1000001, c)
  | some j => (c.1.2.2 j 0, recX c (rmvC (cosC c.1 j) j (onN c.1)))
def oTwice (c : CS) (x : Int32) : Int32 × CS := match ruN c x with
  | none => (-1000001, c)
  | some j => if nI 20 ≤ c.1.1 3 then (-1000004, c) else ((twiC c.1 j (onN c.1)).1 3, recX c (twiC c.1 j (onN c.1)))
def oGaugeOf (c : CS) (x y : Int32) : Int32 := match gxn 6 x with
  | none => -1000001
  | some i => facC c.1 i y
def ledV (v : VV) (i : Nat) (y : Int32) : Int32 := if y = 0 then v.2.1 i 8 else if y = 1 then v.2.1 i 9 else if y = 2 then whC v (v.2.1 i 10) else if y = 3 then v.2.1 i 5 - v.2.1 i 8 else if y = 4 then v.2.1 i 12 else if y = 5 then v.2.1 i 13 else if y = 6 then v.2.1 i 14 else if y = 7 then v.2.1 i 15 else -1000002
def oLedger (c : CS) (x y : Int32) : Int32 := match gxn 6 x with
  | none => -1000001
  | some i => ledV c.1 i y
def runV (v : VV) (j : Nat) (y : Int32) : Int32 := if y = 0 then v.2.2 j 0 else if y = 1 then whC v (v.2.2 j 1) else if y = 2 then v.2.2 j 2 else if y = 3 then v.2.2 j 4 else -1000002
def oRunner (c : CS) (x y : Int32) : Int32 := match ruN c x with
  | none => -1000001
  | some j => runV c.1 j y
def oCount (c : CS) (x : Int32) : Int32 := if x = 0 then c.1.1 0 else if x = 1 then c.1.1 1 else if x = 2 then c.1.1 2 else if x = 3 then c.1.1 3 else if x = 4 then sumN (fun i => facC c.1 i 7) 6 else if x = 5 then sumN (fun i => facC c.1 i 8) 6 + sumN (fun i => facC c.1 i 4) 6 else if x = 6 then sumN (fun i => facC c.1 i 5) 6 else if x = 7 then sumN (fun i => c.1.2.1 i 8) 6 else if x = 8 then gapN c.1 6 else if x = 9 then nI c.2.2.2.2.2.2 else if x = 10 then nI c.2.2.1 else -1000002
theorem sw_out {lo hi : Int} {x : Int32} (h : x.toInt < lo ∨ hi < x.toInt) (k : Int32) (h1 : lo ≤ k.toInt) (h2 : k.toInt ≤ hi) : ¬ x = k := fun q => by subst q; omega
theorem ledV_out {v : VV} {i : Nat} {y : Int32} (h : y.toInt < 0 ∨ 7 < y.toInt) : ledV v i y = -1000002 := by
  unfold ledV
  rw [if_neg (sw_out h 0 (by decide) (by decide)), if_neg (sw_out h 1 (by decide) (by decide)), if_neg (sw_out h 2 (by decide) (by decide)), if_neg (sw_out h 3 (by decide) (by decide)), if_neg (sw_out h 4 (by decide) (by decide)), if_neg (sw_out h 5 (by decide) (by decide)), if_neg (sw_out h 6 (by decide) (by decide)), if_neg (sw_out h 7 (by decide) (by decide))]
theorem runV_out {v : VV} {i : Nat} {y : Int32} (h : y.toInt < 0 ∨ 3 < y.toInt) : runV v i y = -1000002 := by
  unfold runV
  rw [if_neg (sw_out h 0 (by decide) (by decide)), if_neg (sw_out h 1 (by decide) (by decide)), if_neg (sw_out h 2 (by decide) (by decide)), if_neg (sw_out h 3 (by decide) (by decide))]
theorem oCount_out {c : CS} {y : Int32} (h : y.toInt < 0 ∨ 10 < y.toInt) : oCount c y = -1000002 := by
  unfold oCount
  rw [if_neg (sw_out h 0 (by decide) (by decide)), if_neg (sw_out h 1 (by decide) (by decide)), if_neg (sw_out h 2 (by decide) (by decide)), if_neg (sw_out h 3 (by decide) (by decide)), if_neg (sw_out h 4 (by decide) (by decide)), if_neg (sw_out h 5 (by decide) (by decide)), if_neg (sw_out h 6 (by decide) (by decide)), if_neg (sw_out h 7 (by decide) (by decide)), if_neg (sw_out h 8 (by decide) (by decide)), if_neg (sw_out h 9 (by decide) (by decide)), if_neg (sw_out h 10 (by decide) (by decide))]
theorem win_of {x lo hi : Int32} (h : ¬ winC x lo hi = 0) : lo ≤ x ∧ x ≤ hi := Classical.byContradiction (fun q => h (if_neg q))
theorem clampQ {x hi : Int32} {n : Nat} (h0 : 0 ≤ x) (h1 : x ≤ hi) (hh : hi.toInt = n) (hn : n < 2 ^ 31) : ∃ q, q ≤ n ∧ x = nI q ∧ x.toNatClampNeg = q := by
  obtain ⟨q, hq, e⟩ := nI_of2 (M := hi) hh (Int32.not_lt.mpr h0) h1
  exact ⟨q, hq, e, by rw [e]; exact nI_clamp (by omega)⟩
theorem ru_cases {v : VV} {n : Nat} (hn : v.1 3 = nI n) (hn20 : n ≤ 20) (x : Int32) : (if v.1 3 ≤ x then none else gxn 20 x) = none ∨ ∃ j, j < n ∧ x = nI j ∧ (if v.1 3 ≤ x then none else gxn 20 x) = some j := by
  rw [hn]
  rcases pk_ix x (show n < 2 ^ 31 by omega) with h | h | ⟨j, hj, rfl⟩
  · refine Or.inl ?_
    by_cases h2 : nI n ≤ x
    · rw [if_pos h2]
    · rw [if_neg h2]
      unfold gxn
      rw [if_pos (Or.inl h)]
  · exact Or.inl (if_pos h)
  · refine Or.inr ⟨j, hj, rfl, ?_⟩
    rw [if_neg (nI_ge hj (by omega))]
    exact gxn_in (by omega) (by decide)
set_option maxHeartbeats 4000000 in
set_option maxRecDepth 100000 in
/-- set -/
theorem k_X7_set (l : Launch) (g : GG) (A : Nat → Prop) (M0 : MM) (X : Nat) (now : VV) (hs : Nat → VV) (k : Nat) (sl : Nat → VV) (sv f : Nat → Int32) (L : Nat) (hR : RXS g A M0 M0 X (now, hs, k, sl, sv, f, L)) (hI : CI (now, hs, k, sl, sv, f, L)) (x y : Int32)  : Met l yX7_set (Uw yX7_set cX7_set 4 (Option.some ClassFile.FieldType.int)) (rmD 4) (PreM [.ref (X), .int (x), .int (y)] g A M0) (PosI (fun r M1 => r = (oSet (now, hs, k, sl, sv, f, L) x y).1 ∧ RXS g A M0 M1 X (oSet (now, hs, k, sl, sv, f, L) x y).2) g A) 0 0 A := by
  refine mk_Met (own := RX7) rfl rfl (by decide) (Nat.le_of_ble_eq_true rfl) ?_
  intro p e s m below meth c ls aa Q haa hQ hx hb hr hlk hml hown hts hK hM hS hl hnm
  obtain ⟨M, hMM⟩ : ∃ M, M = M0 := ⟨_, rfl⟩
  rw [← hMM] at hM hR
  have ht : ∀ w ∈ lw_good, w.before _ s = true := fun w h => hts w (List.mem_cons_of_mem _ h)
  have hl : lv_has ls 4 [(0, .ref (X)), (1, .int (x)), (2, .int (y))] := hl
  obtain ⟨π, hX⟩ := hR
  have hX : RX g A M0 M X π now hs k sl sv f L := ⟨hX.1, by rw [hMM]; exact FrX.rf⟩
  obtain ⟨⟨n, hn20, hn⟩, hk6, hhs, hsl, hL, hch⟩ := id hI
  have hN : onN now = n := onN_eq hn hn20
  refine lv_iload_n hx hb dX7_set_0 rfl (lv_at hl 1 rfl) ?_
  refine lv_if_ne (tgt := 43) hx hb dX7_set_1 (by decide) (fun c_1 => ?_) (fun c_1 => ?_)
  · refine lv_iload_n hx hb dX7_set_43 rfl (lv_at hl 1 rfl) ?_
    refine lv_iconst (v := 1) hx hb dX7_set_44 (by first | rfl | decide) ?_
    refine lv_icmp_ne (tgt := 86) hx hb dX7_set_45 (by decide) (fun c_45 => ?_) (fun c_45 => ?_)
    · refine lv_ldc (v := (-1000002)) hx hb hown (ht _ uw_340) dX7_set_86 ?_
      subst hQ
      exact m_zret hx hb hr (rfl) hlk hK hM hS dX7_set_88 (by first | (rw [oSet_c c_1 c_45]; exact ⟨rfl, π, hX⟩) | (rw [oSet_e c_1 c_54]; exact ⟨rfl, π, hX⟩) | (rw [oSet_d c_1 c_11]; exact ⟨rfl, π, hX⟩))
    · refine lv_iload_n hx hb dX7_set_48 rfl (lv_at hl 2 rfl) ?_
      refine lv_iconst (v := 0) hx hb dX7_set_49 (by first | rfl | decide) ?_
      refine lv_iconst (v := 1) hx hb dX7_set_50 (by first | rfl | decide) ?_
      refine m_callRSI (val := winC (y) (0) (1)) (As := [.int (y), .int (0), .int (1)]) (rest := []) ⟨hx, hb, hml, hown, ht⟩ (k_X7_within l g A M (y) (0) (1)) (cwS 3 ht (gUS uw_301 uw_302 uw_34 uw_303) rfl rfl rfl (by decide +kernel) ⟨by decide, by decide⟩) hK hM hS rfl hl.1 rfl (Nat.le_of_ble_eq_true rfl) dX7_set_51 ⟨by decide, by decide⟩ (fun H locs hM hS => ?_)
      refine lv_if_eq (tgt := 86) hx hb dX7_set_54 (by decide) (fun c_54 => ?_) (fun c_54 => ?_)
      · refine lv_ldc (v := (-1000002)) hx hb hown (ht _ uw_340) dX7_set_86 ?_
        subst hQ
        exact m_zret hx hb hr (rfl) hlk hK hM hS dX7_set_88 (by first | (rw [oSet_c c_1 c_45]; exact ⟨rfl, π, hX⟩) | (rw [oSet_e c_1 c_54]; exact ⟨rfl, π, hX⟩) | (rw [oSet_d c_1 c_11]; exact ⟨rfl, π, hX⟩))
      · refine lv_aload_n hx hb dX7_set_57 rfl (lv_at hl 0 rfl) ?_
        refine m_get (ci := 7) (C := RX7) (T := TX7) (N := 7) hx hb ht ui_X7 hown hK hM hX.AX hX.obj rfl 2 (by decide) (ht _ uw_277) rfl dX7_set_58 ?_
        refine lv_aload_n hx hb dX7_set_61 rfl (lv_at hl 0 rfl) ?_
        refine m_get (ci := 7) (C := RX7) (T := TX7) (N := 7) hx hb ht ui_X7 hown hK hM hX.AX hX.obj rfl 0 (by decide) (ht _ uw_275) rfl dX7_set_62 ?_
        obtain ⟨ρ8, πs8, hH8⟩ := hX.his
        refine m_callV (As := [.ref (X + 1)]) (rest := []) ⟨hx, hb, hml, hown, ht⟩ (k_X1_record l g A M (X + 71) ρ8 πs8 hs (nI k) hH8 (X + 1) π now n hX.nowV (by omega) k rfl hk6 hn hn20) (cwV 1 ht (gU uw_304 uw_305 uw_306 uw_39 uw_307) rfl rfl rfl (by decide +kernel) ⟨by decide, by decide⟩) hK hM hS (m_recv hK hM hH8.1 hH8.2.2.2.1 rfl) rfl hl.1 rfl (Nat.le_of_ble_eq_true rfl) dX7_set_65 ⟨by decide, by decide⟩ (fun M H locs hp hM hS => ?_)
        obtain ⟨⟨ρ7, πs7, hH7⟩, hF7⟩ := hp
        have hX := hX.setH hH7 hF7
        refine lv_aload_n hx hb dX7_set_68 rfl (lv_at hl 0 rfl) ?_
        refine m_get (ci := 7) (C := RX7) (T := TX7) (N := 7) hx hb ht ui_X7 hown hK hM hX.AX hX.obj rfl 0 (by decide) (ht _ uw_275) rfl dX7_set_69 ?_
        refine rv_getW hx hb ht ui_X6 hown hK hM hX.nowV 1 (by decide) (ht _ uw_191) dX7_set_72 ?_
        refine lv_istore_n (lv' := [(3, .int (now.1 1)), (0, .ref (X)), (1, .int (x)), (2, .int (y))]) hx hb dX7_set_75 rfl hl (by decide) rfl (fun ls hl => ?_)
        refine lv_aload_n hx hb dX7_set_76 rfl (lv_at hl 1 rfl) ?_
        refine m_get (ci := 7) (C := RX7) (T := TX7) (N := 7) hx hb ht ui_X7 hown hK hM hX.AX hX.obj rfl 0 (by decide) (ht _ uw_275) rfl dX7_set_77 ?_
        refine lv_iload_n hx hb dX7_set_80 rfl (lv_at hl 3 rfl) ?_
        refine rv_putW hx hb ht ui_X6 hown hK hM hS hX.nowV FrV.rf 1 (by decide) (ht _ uw_191) dX7_set_81 (fun M H locs hM hV9 hF9 hS => ?_)
        have hX := hX.setN hV9 hF9
        refine lv_iload_n hx hb dX7_set_84 rfl (lv_at hl 0 rfl) ?_
        subst hQ
        exact m_zret hx hb hr (rfl) hlk hK hM hS dX7_set_85 (by rw [oSet_b c_45 c_54]; exact ⟨rfl, π, by rw [← hN] at hX; exact hX⟩)
  · refine lv_iload_n hx hb dX7_set_4 rfl (lv_at hl 2 rfl) ?_
    refine lv_iconst (v := 4) hx hb dX7_set_5 (by first | rfl | decide) ?_
    refine lv_bipush (v := 60) hx hb dX7_set_6 (by first | rfl | decide) ?_
    refine m_callRSI (val := winC (y) (4) (60)) (As := [.int (y), .int (4), .int (60)]) (rest := []) ⟨hx, hb, hml, hown, ht⟩ (k_X7_within l g A M (y) (4) (60)) (cwS 3 ht (gUS uw_301 uw_302 uw_34 uw_303) rfl rfl rfl (by decide +kernel) ⟨by decide, by decide⟩) hK hM hS rfl hl.1 rfl (Nat.le_of_ble_eq_true rfl) dX7_set_8 ⟨by decide, by decide⟩ (fun H locs hM hS => ?_)
    refine lv_if_eq (tgt := 43) hx hb dX7_set_11 (by decide) (fun c_11 => ?_) (fun c_11 => ?_)
    · refine lv_iload_n hx hb dX7_set_43 rfl (lv_at hl 1 rfl) ?_
      refine lv_iconst (v := 1) hx hb dX7_set_44 (by first | rfl | decide) ?_
      refine lv_icmp_ne (tgt := 86) hx hb dX7_set_45 (by decide) (fun c_45 => ?_) (fun c_45 => ?_)
      · refine lv_ldc (v := (-1000002)) hx hb hown (ht _ uw_340) dX7_set_86 ?_
        subst hQ
        exact m_zret hx hb hr (rfl) hlk hK hM hS dX7_set_88 (by first | (rw [oSet_c c_1 c_45]; exact ⟨rfl, π, hX⟩) | (rw [oSet_e c_1 c_54]; exact ⟨rfl, π, hX⟩) | (rw [oSet_d c_1 c_11]; exact ⟨rfl, π, hX⟩))
      · refine lv_iload_n hx hb dX7_set_48 rfl (lv_at hl 2 rfl) ?_
        refine lv_iconst (v := 0) hx hb dX7_set_49 (by first | rfl | decide) ?_
        refine lv_iconst (v := 1) hx hb dX7_set_50 (by first | rfl | decide) ?_
        refine m_callRSI (val := winC (y) (0) (1)) (As := [.int (y), .int (0), .int (1)]) (rest := []) ⟨hx, hb, hml, hown, ht⟩ (k_X7_within l g A M (y) (0) (1)) (cwS 3 ht (gUS uw_301 uw_302 uw_34 uw_303) rfl rfl rfl (by decide +kernel) ⟨by decide, by decide⟩) hK hM hS rfl hl.1 rfl (Nat.le_of_ble_eq_true rfl) dX7_set_51 ⟨by decide, by decide⟩ (fun H locs hM hS => ?_)
        refine lv_if_eq (tgt := 86) hx hb dX7_set_54 (by decide) (fun c_54 => ?_) (fun c_54 => ?_)
        · refine lv_ldc (v := (-1000002)) hx hb hown (ht _ uw_340) dX7_set_86 ?_
          subst hQ
          exact m_zret hx hb hr (rfl) hlk hK hM hS dX7_set_88 (by first | (rw [oSet_c c_1 c_45]; exact ⟨rfl, π, hX⟩) | (rw [oSet_e c_1 c_54]; exact ⟨rfl, π, hX⟩) | (rw [oSet_d c_1 c_11]; exact ⟨rfl, π, hX⟩))
        · refine lv_aload_n hx hb dX7_set_57 rfl (lv_at hl 0 rfl) ?_
          refine m_get (ci := 7) (C := RX7) (T := TX7) (N := 7) hx hb ht ui_X7 hown hK hM hX.AX hX.obj rfl 2 (by decide) (ht _ uw_277) rfl dX7_set_58 ?_
          refine lv_aload_n hx hb dX7_set_61 rfl (lv_at hl 0 rfl) ?_
          refine m_get (ci := 7) (C := RX7) (T := TX7) (N := 7) hx hb ht ui_X7 hown hK hM hX.AX hX.obj rfl 0 (by decide) (ht _ uw_275) rfl dX7_set_62 ?_
          obtain ⟨ρ8, πs8, hH8⟩ := hX.his
          refine m_callV (As := [.ref (X + 1)]) (rest := []) ⟨hx, hb, hml, hown, ht⟩ (k_X1_record l g A M (X + 71) ρ8 πs8 hs (nI k) hH8 (X + 1) π now n hX.nowV (by omega) k rfl hk6 hn hn20) (cwV 1 ht (gU uw_304 uw_305 uw_306 uw_39 uw_307) rfl rfl rfl (by decide +kernel) ⟨by decide, by decide⟩) hK hM hS (m_recv hK hM hH8.1 hH8.2.2.2.1 rfl) rfl hl.1 rfl (Nat.le_of_ble_eq_true rfl) dX7_set_65 ⟨by decide, by decide⟩ (fun M H locs hp hM hS => ?_)
          obtain ⟨⟨ρ7, πs7, hH7⟩, hF7⟩ := hp
          have hX := hX.setH hH7 hF7
          refine lv_aload_n hx hb dX7_set_68 rfl (lv_at hl 0 rfl) ?_
          refine m_get (ci := 7) (C := RX7) (T := TX7) (N := 7) hx hb ht ui_X7 hown hK hM hX.AX hX.obj rfl 0 (by decide) (ht _ uw_275) rfl dX7_set_69 ?_
          refine rv_getW hx hb ht ui_X6 hown hK hM hX.nowV 1 (by decide) (ht _ uw_191) dX7_set_72 ?_
          refine lv_istore_n (lv' := [(3, .int (now.1 1)), (0, .ref (X)), (1, .int (x)), (2, .int (y))]) hx hb dX7_set_75 rfl hl (by decide) rfl (fun ls hl => ?_)
          refine lv_aload_n hx hb dX7_set_76 rfl (lv_at hl 1 rfl) ?_
          refine m_get (ci := 7) (C := RX7) (T := TX7) (N := 7) hx hb ht ui_X7 hown hK hM hX.AX hX.obj rfl 0 (by decide) (ht _ uw_275) rfl dX7_set_77 ?_
          refine lv_iload_n hx hb dX7_set_80 rfl (lv_at hl 3 rfl) ?_
          refine rv_putW hx hb ht ui_X6 hown hK hM hS hX.nowV FrV.rf 1 (by decide) (ht _ uw_191) dX7_set_81 (fun M H locs hM hV9 hF9 hS => ?_)
          have hX := hX.setN hV9 hF9
          refine lv_iload_n hx hb dX7_set_84 rfl (lv_at hl 0 rfl) ?_
          subst hQ
          exact m_zret hx hb hr (rfl) hlk hK hM hS dX7_set_85 (by rw [oSet_b c_45 c_54]; exact ⟨rfl, π, by rw [← hN] at hX; exact hX⟩)
    · refine lv_aload_n hx hb dX7_set_14 rfl (lv_at hl 0 rfl) ?_
      refine m_get (ci := 7) (C := RX7) (T := TX7) (N := 7) hx hb ht ui_X7 hown hK hM hX.AX hX.obj rfl 2 (by decide) (ht _ uw_277) rfl dX7_set_15 ?_
      refine lv_aload_n hx hb dX7_set_18 rfl (lv_at hl 0 rfl) ?_
      refine m_get (ci := 7) (C := RX7) (T := TX7) (N := 7) hx hb ht ui_X7 hown hK hM hX.AX hX.obj rfl 0 (by decide) (ht _ uw_275) rfl dX7_set_19 ?_
      obtain ⟨ρ8, πs8, hH8⟩ := hX.his
      refine m_callV (As := [.ref (X + 1)]) (rest := []) ⟨hx, hb, hml, hown, ht⟩ (k_X1_record l g A M (X + 71) ρ8 πs8 hs (nI k) hH8 (X + 1) π now n hX.nowV (by omega) k rfl hk6 hn hn20) (cwV 1 ht (gU uw_304 uw_305 uw_306 uw_39 uw_307) rfl rfl rfl (by decide +kernel) ⟨by decide, by decide⟩) hK hM hS (m_recv hK hM hH8.1 hH8.2.2.2.1 rfl) rfl hl.1 rfl (Nat.le_of_ble_eq_true rfl) dX7_set_22 ⟨by decide, by decide⟩ (fun M H locs hp hM hS => ?_)
      obtain ⟨⟨ρ7, πs7, hH7⟩, hF7⟩ := hp
      have hX := hX.setH hH7 hF7
      refine lv_aload_n hx hb dX7_set_25 rfl (lv_at hl 0 rfl) ?_
      refine m_get (ci := 7) (C := RX7) (T := TX7) (N := 7) hx hb ht ui_X7 hown hK hM hX.AX hX.obj rfl 0 (by decide) (ht _ uw_275) rfl dX7_set_26 ?_
      refine rv_getW hx hb ht ui_X6 hown hK hM hX.nowV 0 (by decide) (ht _ uw_189) dX7_set_29 ?_
      refine lv_istore_n (lv' := [(3, .int (now.1 0)), (0, .ref (X)), (1, .int (x)), (2, .int (y))]) hx hb dX7_set_32 rfl hl (by decide) rfl (fun ls hl => ?_)
      refine lv_aload_n hx hb dX7_set_33 rfl (lv_at hl 1 rfl) ?_
      refine m_get (ci := 7) (C := RX7) (T := TX7) (N := 7) hx hb ht ui_X7 hown hK hM hX.AX hX.obj rfl 0 (by decide) (ht _ uw_275) rfl dX7_set_34 ?_
      refine lv_iload_n hx hb dX7_set_37 rfl (lv_at hl 3 rfl) ?_
      refine m_callV (As := [.int (y)]) (rest := []) ⟨hx, hb, hml, hown, ht⟩ (k_X6_changeWheels l g A M (X + 1) π now y hX.nowV n hn hn20) (cwV 1 ht (gU uw_328 uw_329 uw_330 uw_35 uw_331) rfl rfl rfl (by decide +kernel) ⟨by decide, by decide⟩) hK hM hS (m_recv hK hM hX.nowV.AW hX.nowV.W rfl) rfl hl.1 rfl (Nat.le_of_ble_eq_true rfl) dX7_set_38 ⟨by decide, by decide⟩ (fun M H locs hp hM hS => ?_)
      obtain ⟨hV9, hF9⟩ := hp
      have hX := hX.setN hV9 hF9
      refine lv_iload_n hx hb dX7_set_41 rfl (lv_at hl 0 rfl) ?_
      subst hQ
      exact m_zret hx hb hr (rfl) hlk hK hM hS dX7_set_42 (by rw [oSet_a c_1 c_11]; exact ⟨rfl, π, by rw [← hN] at hX; exact hX⟩)

set_option maxHeartbeats 4000000 in
set_option maxRecDepth 100000 in
/-- gauge -/
theorem k_X7_gauge (l : Launch) (g : GG) (A : Nat → Prop) (M0 : MM) (X : Nat) (now : VV) (hs : Nat → VV) (k : Nat) (sl : Nat → VV) (sv f : Nat → Int32) (L : Nat) (hR : RXS g A M0 M0 X (now, hs, k, sl, sv, f, L)) (hI : CI (now, hs, k, sl, sv, f, L)) (x a b d w : Int32)  : Met l yX7_gauge (Uw yX7_gauge cX7_gauge 8 (Option.some ClassFile.FieldType.int)) (rmD 4) (PreM [.ref (X), .int (x), .int (a), .int (b), .int (d), .int (w)] g A M0) (PosI (fun r M1 => r = (oGauge (now, hs, k, sl, sv, f, L) x a b d w).1 ∧ RXS g A M0 M1 X (oGauge (now, hs, k, sl, sv, f, L) x a b d w).2) g A) 0 0 A := by
  refine mk_Met (own := RX7) rfl rfl (by decide) (Nat.le_of_ble_eq_true rfl) ?_
  intro p e s m below meth c ls aa Q haa hQ hx hb hr hlk hml hown hts hK hM hS hl hnm
  obtain ⟨M, hMM⟩ : ∃ M, M = M0 := ⟨_, rfl⟩
  rw [← hMM] at hM hR
  have ht : ∀ w ∈ lw_good, w.before _ s = true := fun w h => hts w (List.mem_cons_of_mem _ h)
  have hl : lv_has ls 8 [(0, .ref (X)), (1, .int (x)), (2, .int (a)), (3, .int (b)), (4, .int (d)), (5, .int (w))] := hl
  obtain ⟨π, hX⟩ := hR
  have hX : RX g A M0 M X π now hs k sl sv f L := ⟨hX.1, by rw [hMM]; exact FrX.rf⟩
  obtain ⟨⟨n, hn20, hn⟩, hk6, hhs, hsl, hL, hch⟩ := id hI
  have hN : onN now = n := onN_eq hn hn20
  rcases gxn_cases (n := 6) (by decide) x with ⟨e1, h1⟩ | ⟨i, hi, ex, e1⟩
  · refine lv_aload_n hx hb dX7_gauge_0 rfl (lv_at hl 0 rfl) ?_
    refine m_get (ci := 7) (C := RX7) (T := TX7) (N := 7) hx hb ht ui_X7 hown hK hM hX.AX hX.obj rfl 0 (by decide) (ht _ uw_275) rfl dX7_gauge_1 ?_
    refine lv_iload_n hx hb dX7_gauge_4 rfl (lv_at hl 1 rfl) ?_
    refine m_callRQ (val := none) (w := .null) (rfl) (As := [.int (x)]) (rest := []) ⟨hx, hb, hml, hown, ht⟩ (k_X6_gaugeAt l g A M (X + 1) π now (x) none hX.nowV e1) (cwV 1 ht (gU uw_345 uw_337 uw_338 uw_35 uw_339) rfl rfl rfl (by decide +kernel) ⟨by decide, by decide⟩) hK hM hS (m_recv hK hM hX.nowV.AW hX.nowV.W rfl) rfl hl.1 rfl (Nat.le_of_ble_eq_true rfl) dX7_gauge_5 ⟨by decide, by decide⟩ (fun H locs hM hS => ?_)
    refine lv_astoreN (lv' := [(6, .null), (0, .ref (X)), (1, .int (x)), (2, .int (a)), (3, .int (b)), (4, .int (d)), (5, .int (w))]) hx hb dX7_gauge_8 hl (by decide) rfl (fun ls hl => ?_)
    refine lv_aloadN hx hb dX7_gauge_10 (lv_at hl 0 rfl) ?_
    refine lv_ifnonnullN hx hb dX7_gauge_12 ?_
    refine lv_ldc (v := (-1000001)) hx hb hown (ht _ uw_346) dX7_gauge_15 ?_
    subst hQ
    exact m_zret hx hb hr (rfl) hlk hK hM hS dX7_gauge_17 (by rw [oGauge_n e1]; exact ⟨rfl, π, hX⟩)
  · refine lv_aload_n hx hb dX7_gauge_0 rfl (lv_at hl 0 rfl) ?_
    refine m_get (ci := 7) (C := RX7) (T := TX7) (N := 7) hx hb ht ui_X7 hown hK hM hX.AX hX.obj rfl 0 (by decide) (ht _ uw_275) rfl dX7_gauge_1 ?_
    refine lv_iload_n hx hb dX7_gauge_4 rfl (lv_at hl 1 rfl) ?_
    refine m_callRQ (val := some (X + 1 + 3 + 2 * i)) (w := .ref (X + 1 + 3 + 2 * i)) (rfl) (As := [.int (x)]) (rest := []) ⟨hx, hb, hml, hown, ht⟩ (k_X6_gaugeAt l g A M (X + 1) π now (x) (some i) hX.nowV e1) (cwV 1 ht (gU uw_345 uw_337 uw_338 uw_35 uw_339) rfl rfl rfl (by decide +kernel) ⟨by decide, by decide⟩) hK hM hS (m_recv hK hM hX.nowV.AW hX.nowV.W rfl) rfl hl.1 rfl (Nat.le_of_ble_eq_true rfl) dX7_gauge_5 ⟨by decide, by decide⟩ (fun H locs hM hS => ?_)
    refine lv_astore (lv' := [(6, .ref (X + 1 + 3 + 2 * i)), (0, .ref (X)), (1, .int (x)), (2, .int (a)), (3, .int (b)), (4, .int (d)), (5, .int (w))]) hx hb dX7_gauge_8 hl (by decide) rfl (fun ls hl => ?_)
    refine lv_aload hx hb dX7_gauge_10 (lv_at hl 0 rfl) ?_
    refine lv_ifnonnull (tgt := 18) hx hb dX7_gauge_12 (by decide) ?_
    refine lv_iload_n hx hb dX7_gauge_18 rfl (lv_at hl 3 rfl) ?_
    refine lv_iconst (v := 1) hx hb dX7_gauge_19 (by first | rfl | decide) ?_
    refine lv_bipush (v := 9) hx hb dX7_gauge_20 (by first | rfl | decide) ?_
    refine m_callRSI (val := winC (a) (1) (9)) (As := [.int (a), .int (1), .int (9)]) (rest := []) ⟨hx, hb, hml, hown, ht⟩ (k_X7_within l g A M (a) (1) (9)) (cwS 3 ht (gUS uw_301 uw_302 uw_34 uw_303) rfl rfl rfl (by decide +kernel) ⟨by decide, by decide⟩) hK hM hS rfl hl.1 rfl (Nat.le_of_ble_eq_true rfl) dX7_gauge_22 ⟨by decide, by decide⟩ (fun H locs hM hS => ?_)
    refine lv_if_eq (tgt := 42) hx hb dX7_gauge_25 (by decide) (fun c_25 => ?_) (fun c_25 => ?_)
    · refine lv_iconst (v := 0) hx hb dX7_gauge_42 (by first | rfl | decide) ?_
      refine lv_istore (lv' := [(7, .int (0)), (6, .ref (X + 1 + 3 + 2 * i)), (0, .ref (X)), (1, .int (x)), (2, .int (a)), (3, .int (b)), (4, .int (d)), (5, .int (w))]) hx hb dX7_gauge_43 hl (by decide) rfl (fun ls hl => ?_)
      refine lv_iload hx hb dX7_gauge_45 (lv_at hl 0 rfl) ?_
      refine lv_if_eq (tgt := 73) hx hb dX7_gauge_47 (by decide) (fun c_47 => ?_) (fun c_47 => absurd (rfl) c_47)
      refine lv_ldc (v := (-1000002)) hx hb hown (ht _ uw_340) dX7_gauge_73 ?_
      subst hQ
      exact m_zret hx hb hr (rfl) hlk hK hM hS dX7_gauge_75 (by rw [oGauge_b e1 (by first | exact Or.inl c_25 | exact Or.inr (Or.inl c_35) | exact Or.inr (Or.inr (Or.inl c_59)) | exact Or.inr (Or.inr (Or.inr c_70)))]; exact ⟨rfl, π, hX⟩)
    · refine lv_iload_n hx hb dX7_gauge_28 rfl (lv_at hl 4 rfl) ?_
      refine lv_iconst (v := 1) hx hb dX7_gauge_29 (by first | rfl | decide) ?_
      refine lv_bipush (v := 50) hx hb dX7_gauge_30 (by first | rfl | decide) ?_
      refine m_callRSI (val := winC (b) (1) (50)) (As := [.int (b), .int (1), .int (50)]) (rest := []) ⟨hx, hb, hml, hown, ht⟩ (k_X7_within l g A M (b) (1) (50)) (cwS 3 ht (gUS uw_301 uw_302 uw_34 uw_303) rfl rfl rfl (by decide +kernel) ⟨by decide, by decide⟩) hK hM hS rfl hl.1 rfl (Nat.le_of_ble_eq_true rfl) dX7_gauge_32 ⟨by decide, by decide⟩ (fun H locs hM hS => ?_)
      refine lv_if_eq (tgt := 42) hx hb dX7_gauge_35 (by decide) (fun c_35 => ?_) (fun c_35 => ?_)
      · refine lv_iconst (v := 0) hx hb dX7_gauge_42 (by first | rfl | decide) ?_
        refine lv_istore (lv' := [(7, .int (0)), (6, .ref (X + 1 + 3 + 2 * i)), (0, .ref (X)), (1, .int (x)), (2, .int (a)), (3, .int (b)), (4, .int (d)), (5, .int (w))]) hx hb dX7_gauge_43 hl (by decide) rfl (fun ls hl => ?_)
        refine lv_iload hx hb dX7_gauge_45 (lv_at hl 0 rfl) ?_
        refine lv_if_eq (tgt := 73) hx hb dX7_gauge_47 (by decide) (fun c_47 => ?_) (fun c_47 => absurd (rfl) c_47)
        refine lv_ldc (v := (-1000002)) hx hb hown (ht _ uw_340) dX7_gauge_73 ?_
        subst hQ
        exact m_zret hx hb hr (rfl) hlk hK hM hS dX7_gauge_75 (by rw [oGauge_b e1 (by first | exact Or.inl c_25 | exact Or.inr (Or.inl c_35) | exact Or.inr (Or.inr (Or.inl c_59)) | exact Or.inr (Or.inr (Or.inr c_70)))]; exact ⟨rfl, π, hX⟩)
      · refine lv_iconst (v := 1) hx hb dX7_gauge_38 (by first | rfl | decide) ?_
        refine lv_goto (tgt := 43) hx hb dX7_gauge_39 (by decide) ?_
        refine lv_istore (lv' := [(7, .int (1)), (6, .ref (X + 1 + 3 + 2 * i)), (0, .ref (X)), (1, .int (x)), (2, .int (a)), (3, .int (b)), (4, .int (d)), (5, .int (w))]) hx hb dX7_gauge_43 hl (by decide) rfl (fun ls hl => ?_)
        refine lv_iload hx hb dX7_gauge_45 (lv_at hl 0 rfl) ?_
        refine lv_if_eq (tgt := 73) hx hb dX7_gauge_47 (by decide) (fun c_47 => absurd c_47 (by decide)) (fun c_47 => ?_)
        refine lv_iload hx hb dX7_gauge_50 (lv_at hl 6 rfl) ?_
        refine lv_iconst (v := 0) hx hb dX7_gauge_52 (by first | rfl | decide) ?_
        refine lv_sipush (v := 200) hx hb dX7_gauge_53 (by first | rfl | decide) ?_
        refine m_callRSI (val := winC (d) (0) (200)) (As := [.int (d), .int (0), .int (200)]) (rest := []) ⟨hx, hb, hml, hown, ht⟩ (k_X7_within l g A M (d) (0) (200)) (cwS 3 ht (gUS uw_301 uw_302 uw_34 uw_303) rfl rfl rfl (by decide +kernel) ⟨by decide, by decide⟩) hK hM hS rfl hl.1 rfl (Nat.le_of_ble_eq_true rfl) dX7_gauge_56 ⟨by decide, by decide⟩ (fun H locs hM hS => ?_)
        refine lv_if_eq (tgt := 73) hx hb dX7_gauge_59 (by decide) (fun c_59 => ?_) (fun c_59 => ?_)
        · refine lv_ldc (v := (-1000002)) hx hb hown (ht _ uw_340) dX7_gauge_73 ?_
          subst hQ
          exact m_zret hx hb hr (rfl) hlk hK hM hS dX7_gauge_75 (by rw [oGauge_b e1 (by first | exact Or.inl c_25 | exact Or.inr (Or.inl c_35) | exact Or.inr (Or.inr (Or.inl c_59)) | exact Or.inr (Or.inr (Or.inr c_70)))]; exact ⟨rfl, π, hX⟩)
        · refine lv_iload hx hb dX7_gauge_62 (lv_at hl 7 rfl) ?_
          refine lv_iconst (v := 0) hx hb dX7_gauge_64 (by first | rfl | decide) ?_
          refine lv_bipush (v := 9) hx hb dX7_gauge_65 (by first | rfl | decide) ?_
          refine m_callRSI (val := winC (w) (0) (9)) (As := [.int (w), .int (0), .int (9)]) (rest := []) ⟨hx, hb, hml, hown, ht⟩ (k_X7_within l g A M (w) (0) (9)) (cwS 3 ht (gUS uw_301 uw_302 uw_34 uw_303) rfl rfl rfl (by decide +kernel) ⟨by decide, by decide⟩) hK hM hS rfl hl.1 rfl (Nat.le_of_ble_eq_true rfl) dX7_gauge_67 ⟨by decide, by decide⟩ (fun H locs hM hS => ?_)
          refine lv_if_ne (tgt := 76) hx hb dX7_gauge_70 (by decide) (fun c_70 => ?_) (fun c_70 => ?_)
          · refine lv_aload_n hx hb dX7_gauge_76 rfl (lv_at hl 2 rfl) ?_
            refine m_get (ci := 7) (C := RX7) (T := TX7) (N := 7) hx hb ht ui_X7 hown hK hM hX.AX hX.obj rfl 2 (by decide) (ht _ uw_277) rfl dX7_gauge_77 ?_
            refine lv_aload_n hx hb dX7_gauge_80 rfl (lv_at hl 2 rfl) ?_
            refine m_get (ci := 7) (C := RX7) (T := TX7) (N := 7) hx hb ht ui_X7 hown hK hM hX.AX hX.obj rfl 0 (by decide) (ht _ uw_275) rfl dX7_gauge_81 ?_
            obtain ⟨ρ8, πs8, hH8⟩ := hX.his
            refine m_callV (As := [.ref (X + 1)]) (rest := []) ⟨hx, hb, hml, hown, ht⟩ (k_X1_record l g A M (X + 71) ρ8 πs8 hs (nI k) hH8 (X + 1) π now n hX.nowV (by omega) k rfl hk6 hn hn20) (cwV 1 ht (gU uw_304 uw_305 uw_306 uw_39 uw_307) rfl rfl rfl (by decide +kernel) ⟨by decide, by decide⟩) hK hM hS (m_recv hK hM hH8.1 hH8.2.2.2.1 rfl) rfl hl.1 rfl (Nat.le_of_ble_eq_true rfl) dX7_gauge_84 ⟨by decide, by decide⟩ (fun M H locs hp hM hS => ?_)
            obtain ⟨⟨ρ7, πs7, hH7⟩, hF7⟩ := hp
            have hX := hX.setH hH7 hF7
            refine lv_aload hx hb dX7_gauge_87 (lv_at hl 1 rfl) ?_
            refine lv_iload_n hx hb dX7_gauge_89 rfl (lv_at hl 4 rfl) ?_
            refine rv_putG hx hb ht ui_X0 hown hK hM hS hX.nowV FrV.rf hi 0 (by decide) (ht _ uw_116) dX7_gauge_90 (fun M H locs hM hV9 hF9 hS => ?_)
            have hX := hX.setN hV9 hF9
            refine lv_aload hx hb dX7_gauge_93 (lv_at hl 1 rfl) ?_
            refine lv_iload_n hx hb dX7_gauge_95 rfl (lv_at hl 5 rfl) ?_
            refine rv_putG hx hb ht ui_X0 hown hK hM hS hX.nowV FrV.rf hi 1 (by decide) (ht _ uw_119) dX7_gauge_96 (fun M H locs hM hV9 hF9 hS => ?_)
            have hX := hX.setN hV9 hF9
            refine lv_aload hx hb dX7_gauge_99 (lv_at hl 1 rfl) ?_
            refine lv_iload hx hb dX7_gauge_101 (lv_at hl 6 rfl) ?_
            refine rv_putG hx hb ht ui_X0 hown hK hM hS hX.nowV FrV.rf hi 2 (by decide) (ht _ uw_122) dX7_gauge_103 (fun M H locs hM hV9 hF9 hS => ?_)
            have hX := hX.setN hV9 hF9
            refine lv_aload hx hb dX7_gauge_106 (lv_at hl 1 rfl) ?_
            refine lv_iload hx hb dX7_gauge_108 (lv_at hl 7 rfl) ?_
            refine rv_putG hx hb ht ui_X0 hown hK hM hS hX.nowV FrV.rf hi 3 (by decide) (ht _ uw_125) dX7_gauge_110 (fun M H locs hM hV9 hF9 hS => ?_)
            have hX := hX.setN hV9 hF9
            refine lv_aload hx hb dX7_gauge_113 (lv_at hl 1 rfl) ?_
            refine rv_getG hx hb ht ui_X0 hown hK hM hX.nowV hi 4 (by decide) (ht _ uw_128) dX7_gauge_115 ?_
            subst hQ
            exact m_zret hx hb hr (rfl) hlk hK hM hS dX7_gauge_118 (by rw [oGauge_y e1 c_25 c_35 c_59 c_70]; exact ⟨rfl, π, by rw [← hN] at hX; exact hX⟩)
          · refine lv_ldc (v := (-1000002)) hx hb hown (ht _ uw_340) dX7_gauge_73 ?_
            subst hQ
            exact m_zret hx hb hr (rfl) hlk hK hM hS dX7_gauge_75 (by rw [oGauge_b e1 (by first | exact Or.inl c_25 | exact Or.inr (Or.inl c_35) | exact Or.inr (Or.inr (Or.inl c_59)) | exact Or.inr (Or.inr (Or.inr c_70)))]; exact ⟨rfl, π, hX⟩)

set_option maxHeartbeats 4000000 in
set_option maxRecDepth 100000 in
/-- rain -/
theorem k_X7_rain (l : Launch) (g : GG) (A : Nat → Prop) (M0 : MM) (X : Nat) (now : VV) (hs : Nat → VV) (k : Nat) (sl : Nat → VV) (sv f : Nat → Int32) (L : Nat) (hR : RXS g A M0 M0 X (now, hs, k, sl, sv, f, L)) (hI : CI (now, hs, k, sl, sv, f, L)) (x y : Int32)  : Met l yX7_rain (Uw yX7_rain cX7_rain 3 (Option.some ClassFile.FieldType.int)) (rmD 6) (PreM [.ref (X), .int (x), .int (y)] g A M0) (PosI (fun r M1 => r = (oRain (now, hs, k, sl, sv, f, L) x y).1 ∧ RXS g A M0 M1 X (oRain (now, hs, k, sl, sv, f, L) x y).2) g A) 0 0 A := by
  refine mk_Met (own := RX7) rfl rfl (by decide) (Nat.le_of_ble_eq_true rfl) ?_
  intro p e s m below meth c ls aa Q haa hQ hx hb hr hlk hml hown hts hK hM hS hl hnm
  obtain ⟨M, hMM⟩ : ∃ M, M = M0 := ⟨_, rfl⟩
  rw [← hMM] at hM hR
  have ht : ∀ w ∈ lw_good, w.before _ s = true := fun w h => hts w (List.mem_cons_of_mem _ h)
  have hl : lv_has ls 3 [(0, .ref (X)), (1, .int (x)), (2, .int (y))] := hl
  obtain ⟨π, hX⟩ := hR
  have hX : RX g A M0 M X π now hs k sl sv f L := ⟨hX.1, by rw [hMM]; exact FrX.rf⟩
  obtain ⟨⟨n, hn20, hn⟩, hk6, hhs, hsl, hL, hch⟩ := id hI
  have hN : onN now = n := onN_eq hn hn20
  refine lv_iload_n hx hb dX7_rain_0 rfl (lv_at hl 1 rfl) ?_
  refine lv_iconst (v := 0) hx hb dX7_rain_1 (by first | rfl | decide) ?_
  refine lv_bipush (v := 99) hx hb dX7_rain_2 (by first | rfl | decide) ?_
  refine m_callRSI (val := winC (x) (0) (99)) (As := [.int (x), .int (0), .int (99)]) (rest := []) ⟨hx, hb, hml, hown, ht⟩ (k_X7_within l g A M (x) (0) (99)) (cwS 3 ht (gUS uw_301 uw_302 uw_34 uw_303) rfl rfl rfl (by decide +kernel) ⟨by decide, by decide⟩) hK hM hS rfl hl.1 rfl (Nat.le_of_ble_eq_true rfl) dX7_rain_4 ⟨by decide, by decide⟩ (fun H locs hM hS => ?_)
  refine lv_if_eq (tgt := 20) hx hb dX7_rain_7 (by decide) (fun c_7 => ?_) (fun c_7 => ?_)
  · refine lv_ldc (v := (-1000002)) hx hb hown (ht _ uw_340) dX7_rain_20 ?_
    subst hQ
    exact m_zret hx hb hr (rfl) hlk hK hM hS dX7_rain_22 (by unfold oRain; rw [if_pos (by first | exact Or.inl c_7 | exact Or.inr c_17)]; exact ⟨rfl, π, hX⟩)
  · refine lv_iload_n hx hb dX7_rain_10 rfl (lv_at hl 2 rfl) ?_
    refine lv_iconst (v := 1) hx hb dX7_rain_11 (by first | rfl | decide) ?_
    refine lv_bipush (v := 24) hx hb dX7_rain_12 (by first | rfl | decide) ?_
    refine m_callRSI (val := winC (y) (1) (24)) (As := [.int (y), .int (1), .int (24)]) (rest := []) ⟨hx, hb, hml, hown, ht⟩ (k_X7_within l g A M (y) (1) (24)) (cwS 3 ht (gUS uw_301 uw_302 uw_34 uw_303) rfl rfl rfl (by decide +kernel) ⟨by decide, by decide⟩) hK hM hS rfl hl.1 rfl (Nat.le_of_ble_eq_true rfl) dX7_rain_14 ⟨by decide, by decide⟩ (fun H locs hM hS => ?_)
    refine lv_if_ne (tgt := 23) hx hb dX7_rain_17 (by decide) (fun c_17 => ?_) (fun c_17 => ?_)
    · refine lv_aload_n hx hb dX7_rain_23 rfl (lv_at hl 0 rfl) ?_
      refine m_get (ci := 7) (C := RX7) (T := TX7) (N := 7) hx hb ht ui_X7 hown hK hM hX.AX hX.obj rfl 0 (by decide) (ht _ uw_275) rfl dX7_rain_24 ?_
      refine lv_iload_n hx hb dX7_rain_27 rfl (lv_at hl 2 rfl) ?_
      refine m_callRI (val := if now.1 2 + y ≤ 9999 then 1 else 0) (As := [.int (y)]) (rest := []) ⟨hx, hb, hml, hown, ht⟩ (k_X6_hasTimeFor l g A M (X + 1) π now y hX.nowV) (cwV 1 ht (gU uw_351 uw_352 uw_353 uw_35 uw_354) rfl rfl rfl (by decide +kernel) ⟨by decide, by decide⟩) hK hM hS (m_recv hK hM hX.nowV.AW hX.nowV.W rfl) rfl hl.1 rfl (Nat.le_of_ble_eq_true rfl) dX7_rain_28 ⟨by decide, by decide⟩ (fun H locs hM hS => ?_)
      refine lv_if_ne (tgt := 37) hx hb dX7_rain_31 (by decide) (fun c_31 => ?_) (fun c_31 => ?_)
      · refine lv_aload_n hx hb dX7_rain_37 rfl (lv_at hl 0 rfl) ?_
        refine m_get (ci := 7) (C := RX7) (T := TX7) (N := 7) hx hb ht ui_X7 hown hK hM hX.AX hX.obj rfl 2 (by decide) (ht _ uw_277) rfl dX7_rain_38 ?_
        refine lv_aload_n hx hb dX7_rain_41 rfl (lv_at hl 0 rfl) ?_
        refine m_get (ci := 7) (C := RX7) (T := TX7) (N := 7) hx hb ht ui_X7 hown hK hM hX.AX hX.obj rfl 0 (by decide) (ht _ uw_275) rfl dX7_rain_42 ?_
        obtain ⟨ρ8, πs8, hH8⟩ := hX.his
        refine m_callV (As := [.ref (X + 1)]) (rest := []) ⟨hx, hb, hml, hown, ht⟩ (k_X1_record l g A M (X + 71) ρ8 πs8 hs (nI k) hH8 (X + 1) π now n hX.nowV (by omega) k rfl hk6 hn hn20) (cwV 1 ht (gU uw_304 uw_305 uw_306 uw_39 uw_307) rfl rfl rfl (by decide +kernel) ⟨by decide, by decide⟩) hK hM hS (m_recv hK hM hH8.1 hH8.2.2.2.1 rfl) rfl hl.1 rfl (Nat.le_of_ble_eq_true rfl) dX7_rain_45 ⟨by decide, by decide⟩ (fun M H locs hp hM hS => ?_)
        obtain ⟨⟨ρ7, πs7, hH7⟩, hF7⟩ := hp
        have hX := hX.setH hH7 hF7
        refine lv_aload_n hx hb dX7_rain_48 rfl (lv_at hl 0 rfl) ?_
        refine m_get (ci := 7) (C := RX7) (T := TX7) (N := 7) hx hb ht ui_X7 hown hK hM hX.AX hX.obj rfl 0 (by decide) (ht _ uw_275) rfl dX7_rain_49 ?_
        refine lv_iload_n hx hb dX7_rain_52 rfl (lv_at hl 1 rfl) ?_
        refine lv_iload_n hx hb dX7_rain_53 rfl (lv_at hl 2 rfl) ?_
        obtain ⟨hw1, hw2⟩ := win_of c_17
        obtain ⟨q, hq, ey, ec⟩ := clampQ (hi := 24) (n := 24) (Int32.le_trans (show (0 : Int32) ≤ 1 by decide) hw1) hw2 rfl (by decide)
        refine m_callI (As := [.int (x), .int (y)]) (rest := []) ⟨hx, hb, hml, hown, ht⟩ ((by have z := k_X6_passHours l g A M (X + 1) π now x q hX.nowV hI.1 (by omega); rw [← ey] at z; exact z)) (cwV 2 ht (gU uw_356 uw_357 uw_358 uw_35 uw_359) rfl rfl rfl (by decide +kernel) ⟨by decide, by decide⟩) hK hM hS (m_recv hK hM hX.nowV.AW hX.nowV.W rfl) rfl hl.1 rfl (Nat.le_of_ble_eq_true rfl) dX7_rain_54 ⟨by decide, by decide⟩ (fun r9 M H locs hp hM hS => ?_)
        obtain ⟨e9, ⟨π, hV9⟩, hF9⟩ := hp
        have hX := hX.setN hV9 hF9
        subst hQ
        exact m_zret hx hb hr (rfl) hlk hK hM hS dX7_rain_57 (by unfold oRain; rw [if_neg (fun z => z.elim c_7 c_17), if_neg (fun z => c_31 (ite10.mpr z)), ec]; exact ⟨e9, π, by rw [← hN] at hX; exact hX⟩)
      · refine lv_ldc (v := (-1000004)) hx hb hown (ht _ uw_355) dX7_rain_34 ?_
        subst hQ
        exact m_zret hx hb hr (rfl) hlk hK hM hS dX7_rain_36 (by unfold oRain; rw [if_neg (fun z => z.elim c_7 c_17), if_pos (ite10.mp c_31)]; exact ⟨rfl, π, hX⟩)
    · refine lv_ldc (v := (-1000002)) hx hb hown (ht _ uw_340) dX7_rain_20 ?_
      subst hQ
      exact m_zret hx hb hr (rfl) hlk hK hM hS dX7_rain_22 (by unfold oRain; rw [if_pos (by first | exact Or.inl c_7 | exact Or.inr c_17)]; exact ⟨rfl, π, hX⟩)

set_option maxHeartbeats 4000000 in
set_option maxRecDepth 100000 in
/-- send -/
theorem k_X7_send (l : Launch) (g : GG) (A : Nat → Prop) (M0 : MM) (X : Nat) (now : VV) (hs : Nat → VV) (k : Nat) (sl : Nat → VV) (sv f : Nat → Int32) (L : Nat) (hR : RXS g A M0 M0 X (now, hs, k, sl, sv, f, L)) (hI : CI (now, hs, k, sl, sv, f, L)) (x : Int32)  : Met l yX7_send (Uw yX7_send cX7_send 2 (Option.some ClassFile.FieldType.int)) (rmD 5) (PreM [.ref (X), .int (x)] g A M0) (PosI (fun r M1 => r = (oSend (now, hs, k, sl, sv, f, L) x).1 ∧ RXS g A M0 M1 X (oSend (now, hs, k, sl, sv, f, L) x).2) g A) 0 0 A := by
  refine mk_Met (own := RX7) rfl rfl (by decide) (Nat.le_of_ble_eq_true rfl) ?_
  intro p e s m below meth c ls aa Q haa hQ hx hb hr hlk hml hown hts hK hM hS hl hnm
  obtain ⟨M, hMM⟩ : ∃ M, M = M0 := ⟨_, rfl⟩
  rw [← hMM] at hM hR
  have ht : ∀ w ∈ lw_good, w.before _ s = true := fun w h => hts w (List.mem_cons_of_mem _ h)
  have hl : lv_has ls 2 [(0, .ref (X)), (1, .int (x))] := hl
  obtain ⟨π, hX⟩ := hR
  have hX : RX g A M0 M X π now hs k sl sv f L := ⟨hX.1, by rw [hMM]; exact FrX.rf⟩
  obtain ⟨⟨n, hn20, hn⟩, hk6, hhs, hsl, hL, hch⟩ := id hI
  have hN : onN now = n := onN_eq hn hn20
  rcases gxn_cases (n := 6) (by decide) x with ⟨e1, h1⟩ | ⟨i, hi, ex, e1⟩
  · refine lv_aload_n hx hb dX7_send_0 rfl (lv_at hl 0 rfl) ?_
    refine m_get (ci := 7) (C := RX7) (T := TX7) (N := 7) hx hb ht ui_X7 hown hK hM hX.AX hX.obj rfl 0 (by decide) (ht _ uw_275) rfl dX7_send_1 ?_
    refine lv_iload_n hx hb dX7_send_4 rfl (lv_at hl 1 rfl) ?_
    refine m_callRQ (val := none) (w := .null) (rfl) (As := [.int (x)]) (rest := []) ⟨hx, hb, hml, hown, ht⟩ (k_X6_gaugeAt l g A M (X + 1) π now (x) none hX.nowV e1) (cwV 1 ht (gU uw_345 uw_337 uw_338 uw_35 uw_339) rfl rfl rfl (by decide +kernel) ⟨by decide, by decide⟩) hK hM hS (m_recv hK hM hX.nowV.AW hX.nowV.W rfl) rfl hl.1 rfl (Nat.le_of_ble_eq_true rfl) dX7_send_5 ⟨by decide, by decide⟩ (fun H locs hM hS => ?_)
    refine lv_ifnonnullN hx hb dX7_send_8 ?_
    refine lv_ldc (v := (-1000001)) hx hb hown (ht _ uw_346) dX7_send_11 ?_
    subst hQ
    exact m_zret hx hb hr (rfl) hlk hK hM hS dX7_send_13 (by unfold oSend; rw [e1]; exact ⟨rfl, π, hX⟩)
  · refine lv_aload_n hx hb dX7_send_0 rfl (lv_at hl 0 rfl) ?_
    refine m_get (ci := 7) (C := RX7) (T := TX7) (N := 7) hx hb ht ui_X7 hown hK hM hX.AX hX.obj rfl 0 (by decide) (ht _ uw_275) rfl dX7_send_1 ?_
    refine lv_iload_n hx hb dX7_send_4 rfl (lv_at hl 1 rfl) ?_
    refine m_callRQ (val := some (X + 1 + 3 + 2 * i)) (w := .ref (X + 1 + 3 + 2 * i)) (rfl) (As := [.int (x)]) (rest := []) ⟨hx, hb, hml, hown, ht⟩ (k_X6_gaugeAt l g A M (X + 1) π now (x) (some i) hX.nowV e1) (cwV 1 ht (gU uw_345 uw_337 uw_338 uw_35 uw_339) rfl rfl rfl (by decide +kernel) ⟨by decide, by decide⟩) hK hM hS (m_recv hK hM hX.nowV.AW hX.nowV.W rfl) rfl hl.1 rfl (Nat.le_of_ble_eq_true rfl) dX7_send_5 ⟨by decide, by decide⟩ (fun H locs hM hS => ?_)
    refine lv_ifnonnull (tgt := 14) hx hb dX7_send_8 (by decide) ?_
    refine lv_aload_n hx hb dX7_send_14 rfl (lv_at hl 0 rfl) ?_
    refine m_get (ci := 7) (C := RX7) (T := TX7) (N := 7) hx hb ht ui_X7 hown hK hM hX.AX hX.obj rfl 0 (by decide) (ht _ uw_275) rfl dX7_send_15 ?_
    refine m_callRI (val := if nI 20 ≤ now.1 3 then 1 else 0) (As := []) (rest := []) ⟨hx, hb, hml, hown, ht⟩ (k_X6_isFull l g A M (X + 1) π now hX.nowV) (cwV 0 ht (gU uw_400 uw_401 uw_402 uw_35 uw_403) rfl rfl rfl (by decide +kernel) ⟨by decide, by decide⟩) hK hM hS (m_recv hK hM hX.nowV.AW hX.nowV.W rfl) rfl hl.1 rfl (Nat.le_of_ble_eq_true rfl) dX7_send_18 ⟨by decide, by decide⟩ (fun H locs hM hS => ?_)
    refine lv_if_eq (tgt := 27) hx hb dX7_send_21 (by decide) (fun c_21 => ?_) (fun c_21 => ?_)
    · refine lv_aload_n hx hb dX7_send_27 rfl (lv_at hl 0 rfl) ?_
      refine m_get (ci := 7) (C := RX7) (T := TX7) (N := 7) hx hb ht ui_X7 hown hK hM hX.AX hX.obj rfl 2 (by decide) (ht _ uw_277) rfl dX7_send_28 ?_
      refine lv_aload_n hx hb dX7_send_31 rfl (lv_at hl 0 rfl) ?_
      refine m_get (ci := 7) (C := RX7) (T := TX7) (N := 7) hx hb ht ui_X7 hown hK hM hX.AX hX.obj rfl 0 (by decide) (ht _ uw_275) rfl dX7_send_32 ?_
      obtain ⟨ρ8, πs8, hH8⟩ := hX.his
      refine m_callV (As := [.ref (X + 1)]) (rest := []) ⟨hx, hb, hml, hown, ht⟩ (k_X1_record l g A M (X + 71) ρ8 πs8 hs (nI k) hH8 (X + 1) π now n hX.nowV (by omega) k rfl hk6 hn hn20) (cwV 1 ht (gU uw_304 uw_305 uw_306 uw_39 uw_307) rfl rfl rfl (by decide +kernel) ⟨by decide, by decide⟩) hK hM hS (m_recv hK hM hH8.1 hH8.2.2.2.1 rfl) rfl hl.1 rfl (Nat.le_of_ble_eq_true rfl) dX7_send_35 ⟨by decide, by decide⟩ (fun M H locs hp hM hS => ?_)
      obtain ⟨⟨ρ7, πs7, hH7⟩, hF7⟩ := hp
      have hX := hX.setH hH7 hF7
      refine lv_aload_n hx hb dX7_send_38 rfl (lv_at hl 0 rfl) ?_
      refine m_get (ci := 7) (C := RX7) (T := TX7) (N := 7) hx hb ht ui_X7 hown hK hM hX.AX hX.obj rfl 0 (by decide) (ht _ uw_275) rfl dX7_send_39 ?_
      refine lv_iload_n hx hb dX7_send_42 rfl (lv_at hl 1 rfl) ?_
      have hlt : n < 20 := by
        have z := ite10.mp c_21
        rw [hn] at z
        exact nI_lt_of (by omega) (by decide) z
      refine m_callI (As := [.int (x)]) (rest := []) ⟨hx, hb, hml, hown, ht⟩ ((by have z := k_X6_sendRunner l g A M (X + 1) π now i hX.nowV n hn hn20 hi; rw [← ex] at z; exact z)) (cwV 1 ht (gU uw_404 uw_405 uw_406 uw_35 uw_407) rfl rfl rfl (by decide +kernel) ⟨by decide, by decide⟩) hK hM hS (m_recv hK hM hX.nowV.AW hX.nowV.W rfl) rfl hl.1 rfl (Nat.le_of_ble_eq_true rfl) dX7_send_43 ⟨by decide, by decide⟩ (fun r9 M H locs hp hM hS => ?_)
      obtain ⟨e9, ⟨π, hV9⟩, hF9⟩ := hp.1 hlt
      have hX := hX.setN hV9 hF9
      subst hQ
      exact m_zret hx hb hr (rfl) hlk hK hM hS dX7_send_46 (by unfold oSend; rw [e1]; dsimp only; rw [if_neg (ite10.mp c_21)]; rw [← hN] at hX e9; exact ⟨e9, π, hX⟩)
    · refine lv_ldc (v := (-1000004)) hx hb hown (ht _ uw_355) dX7_send_24 ?_
      subst hQ
      exact m_zret hx hb hr (rfl) hlk hK hM hS dX7_send_26 (by unfold oSend; rw [e1]; dsimp only; rw [if_pos (Classical.not_not.mp (fun z => c_21 (ite10.mpr z)))]; exact ⟨rfl, π, hX⟩)

set_option maxHeartbeats 4000000 in
set_option maxRecDepth 100000 in
/-- lose -/
theorem k_X7_lose (l : Launch) (g : GG) (A : Nat → Prop) (M0 : MM) (X : Nat) (now : VV) (hs : Nat → VV) (k : Nat) (sl : Nat → VV) (sv f : Nat → Int32) (L : Nat) (hR : RXS g A M0 M0 X (now, hs, k, sl, sv, f, L)) (hI : CI (now, hs, k, sl, sv, f, L)) (x : Int32)  : Met l yX7_lose (Uw yX7_lose cX7_lose 4 (Option.some ClassFile.FieldType.int)) (rmD 5) (PreM [.ref (X), .int (x)] g A M0) (PosI (fun r M1 => r = (oLose (now, hs, k, sl, sv, f, L) x).1 ∧ RXS g A M0 M1 X (oLose (now, hs, k, sl, sv, f, L) x).2) g A) 0 0 A := by
  refine mk_Met (own := RX7) rfl rfl (by decide) (Nat.le_of_ble_eq_true rfl) ?_
  intro p e s m below meth c ls aa Q haa hQ hx hb hr hlk hml hown hts hK hM hS hl hnm
  obtain ⟨M, hMM⟩ : ∃ M, M = M0 := ⟨_, rfl⟩
  rw [← hMM] at hM hR
  have ht : ∀ w ∈ lw_good, w.before _ s = true := fun w h => hts w (List.mem_cons_of_mem _ h)
  have hl : lv_has ls 4 [(0, .ref (X)), (1, .int (x))] := hl
  obtain ⟨π, hX⟩ := hR
  have hX : RX g A M0 M X π now hs k sl sv f L := ⟨hX.1, by rw [hMM]; exact FrX.rf⟩
  obtain ⟨⟨n, hn20, hn⟩, hk6, hhs, hsl, hL, hch⟩ := id hI
  have hN : onN now = n := onN_eq hn hn20
  rcases ru_cases (v := now) hn hn20 x with e1 | ⟨j, hjn, ex, e1⟩
  · refine lv_aload_n hx hb dX7_lose_0 rfl (lv_at hl 0 rfl) ?_
    refine m_get (ci := 7) (C := RX7) (T := TX7) (N := 7) hx hb ht ui_X7 hown hK hM hX.AX hX.obj rfl 0 (by decide) (ht _ uw_275) rfl dX7_lose_1 ?_
    refine lv_iload_n hx hb dX7_lose_4 rfl (lv_at hl 1 rfl) ?_
    refine m_callRQ (val := none) (w := .null) (rfl) (As := [.int (x)]) (rest := []) ⟨hx, hb, hml, hown, ht⟩ (k_X6_runnerAt l g A M (X + 1) π now (x) none hX.nowV e1) (cwV 1 ht (gU uw_418 uw_369 uw_370 uw_35 uw_371) rfl rfl rfl (by decide +kernel) ⟨by decide, by decide⟩) hK hM hS (m_recv hK hM hX.nowV.AW hX.nowV.W rfl) rfl hl.1 rfl (Nat.le_of_ble_eq_true rfl) dX7_lose_5 ⟨by decide, by decide⟩ (fun H locs hM hS => ?_)
    refine lv_astore_nN (lv' := [(2, .null), (0, .ref (X)), (1, .int (x))]) hx hb dX7_lose_8 rfl hl (by decide) rfl (fun ls hl => ?_)
    refine lv_aload_nN hx hb dX7_lose_9 rfl (lv_at hl 0 rfl) ?_
    refine lv_ifnonnullN hx hb dX7_lose_10 ?_
    refine lv_ldc (v := (-1000001)) hx hb hown (ht _ uw_346) dX7_lose_13 ?_
    subst hQ
    exact m_zret hx hb hr (rfl) hlk hK hM hS dX7_lose_15 (by unfold oLose; rw [show ruN (now, hs, k, sl, sv, f, L) x = none from e1]; exact ⟨rfl, π, hX⟩)
  · have hj : j < 20 := by omega
    refine lv_aload_n hx hb dX7_lose_0 rfl (lv_at hl 0 rfl) ?_
    refine m_get (ci := 7) (C := RX7) (T := TX7) (N := 7) hx hb ht ui_X7 hown hK hM hX.AX hX.obj rfl 0 (by decide) (ht _ uw_275) rfl dX7_lose_1 ?_
    refine lv_iload_n hx hb dX7_lose_4 rfl (lv_at hl 1 rfl) ?_
    refine m_callRQ (val := some (X + 1 + 15 + π j)) (w := .ref (X + 1 + 15 + π j)) (rfl) (As := [.int (x)]) (rest := []) ⟨hx, hb, hml, hown, ht⟩ (k_X6_runnerAt l g A M (X + 1) π now (x) (some j) hX.nowV e1) (cwV 1 ht (gU uw_418 uw_369 uw_370 uw_35 uw_371) rfl rfl rfl (by decide +kernel) ⟨by decide, by decide⟩) hK hM hS (m_recv hK hM hX.nowV.AW hX.nowV.W rfl) rfl hl.1 rfl (Nat.le_of_ble_eq_true rfl) dX7_lose_5 ⟨by decide, by decide⟩ (fun H locs hM hS => ?_)
    refine lv_astore_n (lv' := [(2, .ref (X + 1 + 15 + π j)), (0, .ref (X)), (1, .int (x))]) hx hb dX7_lose_8 rfl hl (by decide) rfl (fun ls hl => ?_)
    refine lv_aload_n hx hb dX7_lose_9 rfl (lv_at hl 0 rfl) ?_
    refine lv_ifnonnull (tgt := 16) hx hb dX7_lose_10 (by decide) ?_
    refine lv_aload_n hx hb dX7_lose_16 rfl (lv_at hl 1 rfl) ?_
    refine m_get (ci := 7) (C := RX7) (T := TX7) (N := 7) hx hb ht ui_X7 hown hK hM hX.AX hX.obj rfl 2 (by decide) (ht _ uw_277) rfl dX7_lose_17 ?_
    refine lv_aload_n hx hb dX7_lose_20 rfl (lv_at hl 1 rfl) ?_
    refine m_get (ci := 7) (C := RX7) (T := TX7) (N := 7) hx hb ht ui_X7 hown hK hM hX.AX hX.obj rfl 0 (by decide) (ht _ uw_275) rfl dX7_lose_21 ?_
    obtain ⟨ρ8, πs8, hH8⟩ := hX.his
    refine m_callV (As := [.ref (X + 1)]) (rest := []) ⟨hx, hb, hml, hown, ht⟩ (k_X1_record l g A M (X + 71) ρ8 πs8 hs (nI k) hH8 (X + 1) π now n hX.nowV (by omega) k rfl hk6 hn hn20) (cwV 1 ht (gU uw_304 uw_305 uw_306 uw_39 uw_307) rfl rfl rfl (by decide +kernel) ⟨by decide, by decide⟩) hK hM hS (m_recv hK hM hH8.1 hH8.2.2.2.1 rfl) rfl hl.1 rfl (Nat.le_of_ble_eq_true rfl) dX7_lose_24 ⟨by decide, by decide⟩ (fun M H locs hp hM hS => ?_)
    obtain ⟨⟨ρ7, πs7, hH7⟩, hF7⟩ := hp
    have hX := hX.setH hH7 hF7
    refine lv_aload_n hx hb dX7_lose_27 rfl (lv_at hl 0 rfl) ?_
    refine rv_getR hx hb ht ui_X5 hown hK hM hX.nowV hj 0 (by decide) (ht _ uw_164) dX7_lose_28 ?_
    refine lv_istore_n (lv' := [(3, .int (now.2.2 j 0)), (2, .ref (X + 1 + 15 + π j)), (0, .ref (X)), (1, .int (x))]) hx hb dX7_lose_31 rfl hl (by decide) rfl (fun ls hl => ?_)
    refine lv_aload_n hx hb dX7_lose_32 rfl (lv_at hl 2 rfl) ?_
    refine m_get (ci := 7) (C := RX7) (T := TX7) (N := 7) hx hb ht ui_X7 hown hK hM hX.AX hX.obj rfl 0 (by decide) (ht _ uw_275) rfl dX7_lose_33 ?_
    refine lv_aload_n hx hb dX7_lose_36 rfl (lv_at hl 1 rfl) ?_
    refine m_callV (As := [.ref (X + 1 + 15 + π j)]) (rest := []) ⟨hx, hb, hml, hown, ht⟩ (k_X6_countAsLost l g A M (X + 1) π now j hX.nowV hj) (cwV 1 ht (gU uw_419 uw_333 uw_334 uw_35 uw_335) rfl rfl rfl (by decide +kernel) ⟨by decide, by decide⟩) hK hM hS (m_recv hK hM hX.nowV.AW hX.nowV.W rfl) rfl hl.1 rfl (Nat.le_of_ble_eq_true rfl) dX7_lose_37 ⟨by decide, by decide⟩ (fun M H locs hp hM hS => ?_)
    obtain ⟨hV9, hF9⟩ := hp
    have hX := hX.setN hV9 hF9
    refine lv_aload_n hx hb dX7_lose_40 rfl (lv_at hl 2 rfl) ?_
    refine m_get (ci := 7) (C := RX7) (T := TX7) (N := 7) hx hb ht ui_X7 hown hK hM hX.AX hX.obj rfl 0 (by decide) (ht _ uw_275) rfl dX7_lose_41 ?_
    refine lv_iload_n hx hb dX7_lose_44 rfl (lv_at hl 3 rfl) ?_
    refine m_callV (As := [.int (x)]) (rest := []) ⟨hx, hb, hml, hown, ht⟩ ((by have z := k_X6_removeRunner l g A M (X + 1) π (cosC now j) j n hX.nowV (by rw [cosC_1]; exact hn) hn20 hjn; rw [← ex] at z; exact z)) (cwV 1 ht (gU uw_420 uw_393 uw_394 uw_35 uw_395) rfl rfl rfl (by decide +kernel) ⟨by decide, by decide⟩) hK hM hS (m_recv hK hM hX.nowV.AW hX.nowV.W rfl) rfl hl.1 rfl (Nat.le_of_ble_eq_true rfl) dX7_lose_45 ⟨by decide, by decide⟩ (fun M H locs hp hM hS => ?_)
    obtain ⟨hV9, hF9⟩ := hp
    have hX := hX.setN hV9 hF9
    refine lv_iload_n hx hb dX7_lose_48 rfl (lv_at hl 0 rfl) ?_
    subst hQ
    exact m_zret hx hb hr (rfl) hlk hK hM hS dX7_lose_49 (by unfold oLose; rw [show ruN (now, hs, k, sl, sv, f, L) x = some j from e1]; exact ⟨rfl, _, by rw [← hN] at hX; exact hX⟩)

set_option maxHeartbeats 4000000 in
set_option maxRecDepth 100000 in
/-- twice -/
theorem k_X7_twice (l : Launch) (g : GG) (A : Nat → Prop) (M0 : MM) (X : Nat) (now : VV) (hs : Nat → VV) (k : Nat) (sl : Nat → VV) (sv f : Nat → Int32) (L : Nat) (hR : RXS g A M0 M0 X (now, hs, k, sl, sv, f, L)) (hI : CI (now, hs, k, sl, sv, f, L)) (x : Int32)  : Met l yX7_twice (Uw yX7_twice cX7_twice 3 (Option.some ClassFile.FieldType.int)) (rmD 5) (PreM [.ref (X), .int (x)] g A M0) (PosI (fun r M1 => r = (oTwice (now, hs, k, sl, sv, f, L) x).1 ∧ RXS g A M0 M1 X (oTwice (now, hs, k, sl, sv, f, L) x).2) g A) 0 0 A := by
  refine mk_Met (own := RX7) rfl rfl (by decide) (Nat.le_of_ble_eq_true rfl) ?_
  intro p e s m below meth c ls aa Q haa hQ hx hb hr hlk hml hown hts hK hM hS hl hnm
  obtain ⟨M, hMM⟩ : ∃ M, M = M0 := ⟨_, rfl⟩
  rw [← hMM] at hM hR
  have ht : ∀ w ∈ lw_good, w.before _ s = true := fun w h => hts w (List.mem_cons_of_mem _ h)
  have hl : lv_has ls 3 [(0, .ref (X)), (1, .int (x))] := hl
  obtain ⟨π, hX⟩ := hR
  have hX : RX g A M0 M X π now hs k sl sv f L := ⟨hX.1, by rw [hMM]; exact FrX.rf⟩
  obtain ⟨⟨n, hn20, hn⟩, hk6, hhs, hsl, hL, hch⟩ := id hI
  have hN : onN now = n := onN_eq hn hn20
  rcases ru_cases (v := now) hn hn20 x with e1 | ⟨j, hjn, ex, e1⟩
  · refine lv_aload_n hx hb dX7_twice_0 rfl (lv_at hl 0 rfl) ?_
    refine m_get (ci := 7) (C := RX7) (T := TX7) (N := 7) hx hb ht ui_X7 hown hK hM hX.AX hX.obj rfl 0 (by decide) (ht _ uw_275) rfl dX7_twice_1 ?_
    refine lv_iload_n hx hb dX7_twice_4 rfl (lv_at hl 1 rfl) ?_
    refine m_callRQ (val := none) (w := .null) (rfl) (As := [.int (x)]) (rest := []) ⟨hx, hb, hml, hown, ht⟩ (k_X6_runnerAt l g A M (X + 1) π now (x) none hX.nowV e1) (cwV 1 ht (gU uw_418 uw_369 uw_370 uw_35 uw_371) rfl rfl rfl (by decide +kernel) ⟨by decide, by decide⟩) hK hM hS (m_recv hK hM hX.nowV.AW hX.nowV.W rfl) rfl hl.1 rfl (Nat.le_of_ble_eq_true rfl) dX7_twice_5 ⟨by decide, by decide⟩ (fun H locs hM hS => ?_)
    refine lv_astore_nN (lv' := [(2, .null), (0, .ref (X)), (1, .int (x))]) hx hb dX7_twice_8 rfl hl (by decide) rfl (fun ls hl => ?_)
    refine lv_aload_nN hx hb dX7_twice_9 rfl (lv_at hl 0 rfl) ?_
    refine lv_ifnonnullN hx hb dX7_twice_10 ?_
    refine lv_ldc (v := (-1000001)) hx hb hown (ht _ uw_346) dX7_twice_13 ?_
    subst hQ
    exact m_zret hx hb hr (rfl) hlk hK hM hS dX7_twice_15 (by unfold oTwice; rw [show ruN (now, hs, k, sl, sv, f, L) x = none from e1]; exact ⟨rfl, π, hX⟩)
  · have hj : j < 20 := by omega
    refine lv_aload_n hx hb dX7_twice_0 rfl (lv_at hl 0 rfl) ?_
    refine m_get (ci := 7) (C := RX7) (T := TX7) (N := 7) hx hb ht ui_X7 hown hK hM hX.AX hX.obj rfl 0 (by decide) (ht _ uw_275) rfl dX7_twice_1 ?_
    refine lv_iload_n hx hb dX7_twice_4 rfl (lv_at hl 1 rfl) ?_
    refine m_callRQ (val := some (X + 1 + 15 + π j)) (w := .ref (X + 1 + 15 + π j)) (rfl) (As := [.int (x)]) (rest := []) ⟨hx, hb, hml, hown, ht⟩ (k_X6_runnerAt l g A M (X + 1) π now (x) (some j) hX.nowV e1) (cwV 1 ht (gU uw_418 uw_369 uw_370 uw_35 uw_371) rfl rfl rfl (by decide +kernel) ⟨by decide, by decide⟩) hK hM hS (m_recv hK hM hX.nowV.AW hX.nowV.W rfl) rfl hl.1 rfl (Nat.le_of_ble_eq_true rfl) dX7_twice_5 ⟨by decide, by decide⟩ (fun H locs hM hS => ?_)
    refine lv_astore_n (lv' := [(2, .ref (X + 1 + 15 + π j)), (0, .ref (X)), (1, .int (x))]) hx hb dX7_twice_8 rfl hl (by decide) rfl (fun ls hl => ?_)
    refine lv_aload_n hx hb dX7_twice_9 rfl (lv_at hl 0 rfl) ?_
    refine lv_ifnonnull (tgt := 16) hx hb dX7_twice_10 (by decide) ?_
    refine lv_aload_n hx hb dX7_twice_16 rfl (lv_at hl 1 rfl) ?_
    refine m_get (ci := 7) (C := RX7) (T := TX7) (N := 7) hx hb ht ui_X7 hown hK hM hX.AX hX.obj rfl 0 (by decide) (ht _ uw_275) rfl dX7_twice_17 ?_
    refine m_callRI (val := if nI 20 ≤ now.1 3 then 1 else 0) (As := []) (rest := []) ⟨hx, hb, hml, hown, ht⟩ (k_X6_isFull l g A M (X + 1) π now hX.nowV) (cwV 0 ht (gU uw_400 uw_401 uw_402 uw_35 uw_403) rfl rfl rfl (by decide +kernel) ⟨by decide, by decide⟩) hK hM hS (m_recv hK hM hX.nowV.AW hX.nowV.W rfl) rfl hl.1 rfl (Nat.le_of_ble_eq_true rfl) dX7_twice_20 ⟨by decide, by decide⟩ (fun H locs hM hS => ?_)
    refine lv_if_eq (tgt := 29) hx hb dX7_twice_23 (by decide) (fun c_23 => ?_) (fun c_23 => ?_)
    · refine lv_aload_n hx hb dX7_twice_29 rfl (lv_at hl 1 rfl) ?_
      refine m_get (ci := 7) (C := RX7) (T := TX7) (N := 7) hx hb ht ui_X7 hown hK hM hX.AX hX.obj rfl 2 (by decide) (ht _ uw_277) rfl dX7_twice_30 ?_
      refine lv_aload_n hx hb dX7_twice_33 rfl (lv_at hl 1 rfl) ?_
      refine m_get (ci := 7) (C := RX7) (T := TX7) (N := 7) hx hb ht ui_X7 hown hK hM hX.AX hX.obj rfl 0 (by decide) (ht _ uw_275) rfl dX7_twice_34 ?_
      obtain ⟨ρ8, πs8, hH8⟩ := hX.his
      refine m_callV (As := [.ref (X + 1)]) (rest := []) ⟨hx, hb, hml, hown, ht⟩ (k_X1_record l g A M (X + 71) ρ8 πs8 hs (nI k) hH8 (X + 1) π now n hX.nowV (by omega) k rfl hk6 hn hn20) (cwV 1 ht (gU uw_304 uw_305 uw_306 uw_39 uw_307) rfl rfl rfl (by decide +kernel) ⟨by decide, by decide⟩) hK hM hS (m_recv hK hM hH8.1 hH8.2.2.2.1 rfl) rfl hl.1 rfl (Nat.le_of_ble_eq_true rfl) dX7_twice_37 ⟨by decide, by decide⟩ (fun M H locs hp hM hS => ?_)
      obtain ⟨⟨ρ7, πs7, hH7⟩, hF7⟩ := hp
      have hX := hX.setH hH7 hF7
      refine lv_aload_n hx hb dX7_twice_40 rfl (lv_at hl 1 rfl) ?_
      refine m_get (ci := 7) (C := RX7) (T := TX7) (N := 7) hx hb ht ui_X7 hown hK hM hX.AX hX.obj rfl 0 (by decide) (ht _ uw_275) rfl dX7_twice_41 ?_
      refine lv_aload_n hx hb dX7_twice_44 rfl (lv_at hl 0 rfl) ?_
      have hlt : n < 20 := by
        have z := ite10.mp c_23
        rw [hn] at z
        exact nI_lt_of (by omega) (by decide) z
      refine m_callV (As := [.ref (X + 1 + 15 + π j)]) (rest := []) ⟨hx, hb, hml, hown, ht⟩ (k_X6_addSecondOf l g A M (X + 1) π now j hX.nowV n hn hlt hj) (cwV 1 ht (gU uw_425 uw_426 uw_427 uw_35 uw_428) rfl rfl rfl (by decide +kernel) ⟨by decide, by decide⟩) hK hM hS (m_recv hK hM hX.nowV.AW hX.nowV.W rfl) rfl hl.1 rfl (Nat.le_of_ble_eq_true rfl) dX7_twice_45 ⟨by decide, by decide⟩ (fun M H locs hp hM hS => ?_)
      obtain ⟨hV9, hF9⟩ := hp
      have hX := hX.setN hV9 hF9
      refine lv_aload_n hx hb dX7_twice_48 rfl (lv_at hl 1 rfl) ?_
      refine m_get (ci := 7) (C := RX7) (T := TX7) (N := 7) hx hb ht ui_X7 hown hK hM hX.AX hX.obj rfl 0 (by decide) (ht _ uw_275) rfl dX7_twice_49 ?_
      refine rv_getW hx hb ht ui_X6 hown hK hM hX.nowV 3 (by decide) (ht _ uw_195) dX7_twice_52 ?_
      subst hQ
      exact m_zret hx hb hr (rfl) hlk hK hM hS dX7_twice_55 (by unfold oTwice; rw [show ruN (now, hs, k, sl, sv, f, L) x = some j from e1]; dsimp only; rw [if_neg (ite10.mp c_23)]; rw [← hN] at hX; exact ⟨by rw [← hN], π, hX⟩)
    · refine lv_ldc (v := (-1000004)) hx hb hown (ht _ uw_355) dX7_twice_26 ?_
      subst hQ
      exact m_zret hx hb hr (rfl) hlk hK hM hS dX7_twice_28 (by unfold oTwice; rw [show ruN (now, hs, k, sl, sv, f, L) x = some j from e1]; dsimp only; rw [if_pos (Classical.not_not.mp (fun z => c_23 (ite10.mpr z)))]; exact ⟨rfl, π, hX⟩)

set_option maxHeartbeats 4000000 in
set_option maxRecDepth 100000 in
/-- gaugeOf -/
theorem k_X7_gaugeOf (l : Launch) (g : GG) (A : Nat → Prop) (M0 : MM) (X : Nat) (now : VV) (hs : Nat → VV) (k : Nat) (sl : Nat → VV) (sv f : Nat → Int32) (L : Nat) (hR : RXS g A M0 M0 X (now, hs, k, sl, sv, f, L)) (hI : CI (now, hs, k, sl, sv, f, L)) (x y : Int32)  : Met l yX7_gaugeOf (Uw yX7_gaugeOf cX7_gaugeOf 4 (Option.some ClassFile.FieldType.int)) (rmD 2) (PreM [.ref (X), .int (x), .int (y)] g A M0) (PosI (fun r M1 => r = oGaugeOf (now, hs, k, sl, sv, f, L) x y ∧ M1 = M0) g A) 0 0 A := by
  refine mk_Met (own := RX7) rfl rfl (by decide) (Nat.le_of_ble_eq_true rfl) ?_
  intro p e s m below meth c ls aa Q haa hQ hx hb hr hlk hml hown hts hK hM hS hl hnm
  obtain ⟨M, hMM⟩ : ∃ M, M = M0 := ⟨_, rfl⟩
  rw [← hMM] at hM hR
  have ht : ∀ w ∈ lw_good, w.before _ s = true := fun w h => hts w (List.mem_cons_of_mem _ h)
  have hl : lv_has ls 4 [(0, .ref (X)), (1, .int (x)), (2, .int (y))] := hl
  obtain ⟨π, hX⟩ := hR
  have hX : RX g A M0 M X π now hs k sl sv f L := ⟨hX.1, by rw [hMM]; exact FrX.rf⟩
  obtain ⟨⟨n, hn20, hn⟩, hk6, hhs, hsl, hL, hch⟩ := id hI
  have hN : onN now = n := onN_eq hn hn20
  rcases gxn_cases (n := 6) (by decide) x with ⟨e1, h1⟩ | ⟨i, hi, ex, e1⟩
  · refine lv_aload_n hx hb dX7_gaugeOf_0 rfl (lv_at hl 0 rfl) ?_
    refine m_get (ci := 7) (C := RX7) (T := TX7) (N := 7) hx hb ht ui_X7 hown hK hM hX.AX hX.obj rfl 0 (by decide) (ht _ uw_275) rfl dX7_gaugeOf_1 ?_
    refine lv_iload_n hx hb dX7_gaugeOf_4 rfl (lv_at hl 1 rfl) ?_
    refine m_callRQ (val := none) (w := .null) (rfl) (As := [.int (x)]) (rest := []) ⟨hx, hb, hml, hown, ht⟩ (k_X6_gaugeAt l g A M (X + 1) π now (x) none hX.nowV e1) (cwV 1 ht (gU uw_345 uw_337 uw_338 uw_35 uw_339) rfl rfl rfl (by decide +kernel) ⟨by decide, by decide⟩) hK hM hS (m_recv hK hM hX.nowV.AW hX.nowV.W rfl) rfl hl.1 rfl (Nat.le_of_ble_eq_true rfl) dX7_gaugeOf_5 ⟨by decide, by decide⟩ (fun H locs hM hS => ?_)
    refine lv_astore_nN (lv' := [(3, .null), (0, .ref (X)), (1, .int (x)), (2, .int (y))]) hx hb dX7_gaugeOf_8 rfl hl (by decide) rfl (fun ls hl => ?_)
    refine lv_aload_nN hx hb dX7_gaugeOf_9 rfl (lv_at hl 0 rfl) ?_
    refine lv_ifnonnullN hx hb dX7_gaugeOf_10 ?_
    refine lv_ldc (v := (-1000001)) hx hb hown (ht _ uw_346) dX7_gaugeOf_13 ?_
    refine lv_goto (tgt := 27) hx hb dX7_gaugeOf_15 (by decide) ?_
    subst hQ
    exact m_zret hx hb hr (rfl) hlk hK hM hS dX7_gaugeOf_27 (⟨by unfold oGaugeOf; rw [e1], hMM⟩)
  · refine lv_aload_n hx hb dX7_gaugeOf_0 rfl (lv_at hl 0 rfl) ?_
    refine m_get (ci := 7) (C := RX7) (T := TX7) (N := 7) hx hb ht ui_X7 hown hK hM hX.AX hX.obj rfl 0 (by decide) (ht _ uw_275) rfl dX7_gaugeOf_1 ?_
    refine lv_iload_n hx hb dX7_gaugeOf_4 rfl (lv_at hl 1 rfl) ?_
    refine m_callRQ (val := some (X + 1 + 3 + 2 * i)) (w := .ref (X + 1 + 3 + 2 * i)) (rfl) (As := [.int (x)]) (rest := []) ⟨hx, hb, hml, hown, ht⟩ (k_X6_gaugeAt l g A M (X + 1) π now (x) (some i) hX.nowV e1) (cwV 1 ht (gU uw_345 uw_337 uw_338 uw_35 uw_339) rfl rfl rfl (by decide +kernel) ⟨by decide, by decide⟩) hK hM hS (m_recv hK hM hX.nowV.AW hX.nowV.W rfl) rfl hl.1 rfl (Nat.le_of_ble_eq_true rfl) dX7_gaugeOf_5 ⟨by decide, by decide⟩ (fun H locs hM hS => ?_)
    refine lv_astore_n (lv' := [(3, .ref (X + 1 + 3 + 2 * i)), (0, .ref (X)), (1, .int (x)), (2, .int (y))]) hx hb dX7_gaugeOf_8 rfl hl (by decide) rfl (fun ls hl => ?_)
    refine lv_aload_n hx hb dX7_gaugeOf_9 rfl (lv_at hl 0 rfl) ?_
    refine lv_ifnonnull (tgt := 18) hx hb dX7_gaugeOf_10 (by decide) ?_
    refine lv_aload_n hx hb dX7_gaugeOf_18 rfl (lv_at hl 1 rfl) ?_
    refine m_get (ci := 7) (C := RX7) (T := TX7) (N := 7) hx hb ht ui_X7 hown hK hM hX.AX hX.obj rfl 0 (by decide) (ht _ uw_275) rfl dX7_gaugeOf_19 ?_
    refine lv_aload_n hx hb dX7_gaugeOf_22 rfl (lv_at hl 0 rfl) ?_
    refine lv_iload_n hx hb dX7_gaugeOf_23 rfl (lv_at hl 3 rfl) ?_
    refine m_callRI (val := facC now i y) (As := [.ref (X + 1 + 3 + 2 * i), .int (y)]) (rest := []) ⟨hx, hb, hml, hown, ht⟩ (k_X6_factOf l g A M (X + 1) π now i y hX.nowV hi) (cwV 2 ht (gU uw_484 uw_485 uw_486 uw_35 uw_487) rfl rfl rfl (by decide +kernel) ⟨by decide, by decide⟩) hK hM hS (m_recv hK hM hX.nowV.AW hX.nowV.W rfl) rfl hl.1 rfl (Nat.le_of_ble_eq_true rfl) dX7_gaugeOf_24 ⟨by decide, by decide⟩ (fun H locs hM hS => ?_)
    subst hQ
    exact m_zret hx hb hr (rfl) hlk hK hM hS dX7_gaugeOf_27 (⟨by unfold oGaugeOf; rw [e1], hMM⟩)

set_option maxHeartbeats 4000000 in
set_option maxRecDepth 100000 in
/-- ledger -/
theorem k_X7_ledger (l : Launch) (g : GG) (A : Nat → Prop) (M0 : MM) (X : Nat) (now : VV) (hs : Nat → VV) (k : Nat) (sl : Nat → VV) (sv f : Nat → Int32) (L : Nat) (hR : RXS g A M0 M0 X (now, hs, k, sl, sv, f, L)) (hI : CI (now, hs, k, sl, sv, f, L)) (x y : Int32)  : Met l yX7_ledger (Uw yX7_ledger cX7_ledger 5 (Option.some ClassFile.FieldType.int)) (rmD 1) (PreM [.ref (X), .int (x), .int (y)] g A M0) (PosI (fun r M1 => r = oLedger (now, hs, k, sl, sv, f, L) x y ∧ M1 = M0) g A) 0 0 A := by
  refine mk_Met (own := RX7) rfl rfl (by decide) (Nat.le_of_ble_eq_true rfl) ?_
  intro p e s m below meth c ls aa Q haa hQ hx hb hr hlk hml hown hts hK hM hS hl hnm
  obtain ⟨M, hMM⟩ : ∃ M, M = M0 := ⟨_, rfl⟩
  rw [← hMM] at hM hR
  have ht : ∀ w ∈ lw_good, w.before _ s = true := fun w h => hts w (List.mem_cons_of_mem _ h)
  have hl : lv_has ls 5 [(0, .ref (X)), (1, .int (x)), (2, .int (y))] := hl
  obtain ⟨π, hX⟩ := hR
  have hX : RX g A M0 M X π now hs k sl sv f L := ⟨hX.1, by rw [hMM]; exact FrX.rf⟩
  obtain ⟨⟨n, hn20, hn⟩, hk6, hhs, hsl, hL, hch⟩ := id hI
  have hN : onN now = n := onN_eq hn hn20
  rcases gxn_cases (n := 6) (by decide) x with ⟨e1, h1⟩ | ⟨i, hi, ex, e1⟩
  · refine lv_aload_n hx hb dX7_ledger_0 rfl (lv_at hl 0 rfl) ?_
    refine m_get (ci := 7) (C := RX7) (T := TX7) (N := 7) hx hb ht ui_X7 hown hK hM hX.AX hX.obj rfl 0 (by decide) (ht _ uw_275) rfl dX7_ledger_1 ?_
    refine lv_iload_n hx hb dX7_ledger_4 rfl (lv_at hl 1 rfl) ?_
    refine m_callRQ (val := none) (w := .null) (rfl) (As := [.int (x)]) (rest := []) ⟨hx, hb, hml, hown, ht⟩ (k_X6_gaugeAt l g A M (X + 1) π now (x) none hX.nowV e1) (cwV 1 ht (gU uw_345 uw_337 uw_338 uw_35 uw_339) rfl rfl rfl (by decide +kernel) ⟨by decide, by decide⟩) hK hM hS (m_recv hK hM hX.nowV.AW hX.nowV.W rfl) rfl hl.1 rfl (Nat.le_of_ble_eq_true rfl) dX7_ledger_5 ⟨by decide, by decide⟩ (fun H locs hM hS => ?_)
    refine lv_astore_nN (lv' := [(3, .null), (0, .ref (X)), (1, .int (x)), (2, .int (y))]) hx hb dX7_ledger_8 rfl hl (by decide) rfl (fun ls hl => ?_)
    refine lv_aload_nN hx hb dX7_ledger_9 rfl (lv_at hl 0 rfl) ?_
    refine lv_ifnonnullN hx hb dX7_ledger_10 ?_
    refine lv_ldc (v := (-1000001)) hx hb hown (ht _ uw_346) dX7_ledger_13 ?_
    subst hQ
    exact m_zret hx hb hr (rfl) hlk hK hM hS dX7_ledger_15 (⟨by unfold oLedger; rw [e1], hMM⟩)
  · refine lv_aload_n hx hb dX7_ledger_0 rfl (lv_at hl 0 rfl) ?_
    refine m_get (ci := 7) (C := RX7) (T := TX7) (N := 7) hx hb ht ui_X7 hown hK hM hX.AX hX.obj rfl 0 (by decide) (ht _ uw_275) rfl dX7_ledger_1 ?_
    refine lv_iload_n hx hb dX7_ledger_4 rfl (lv_at hl 1 rfl) ?_
    refine m_callRQ (val := some (X + 1 + 3 + 2 * i)) (w := .ref (X + 1 + 3 + 2 * i)) (rfl) (As := [.int (x)]) (rest := []) ⟨hx, hb, hml, hown, ht⟩ (k_X6_gaugeAt l g A M (X + 1) π now (x) (some i) hX.nowV e1) (cwV 1 ht (gU uw_345 uw_337 uw_338 uw_35 uw_339) rfl rfl rfl (by decide +kernel) ⟨by decide, by decide⟩) hK hM hS (m_recv hK hM hX.nowV.AW hX.nowV.W rfl) rfl hl.1 rfl (Nat.le_of_ble_eq_true rfl) dX7_ledger_5 ⟨by decide, by decide⟩ (fun H locs hM hS => ?_)
    refine lv_astore_n (lv' := [(3, .ref (X + 1 + 3 + 2 * i)), (0, .ref (X)), (1, .int (x)), (2, .int (y))]) hx hb dX7_ledger_8 rfl hl (by decide) rfl (fun ls hl => ?_)
    refine lv_aload_n hx hb dX7_ledger_9 rfl (lv_at hl 0 rfl) ?_
    refine lv_ifnonnull (tgt := 16) hx hb dX7_ledger_10 (by decide) ?_
    refine lv_aload_n hx hb dX7_ledger_16 rfl (lv_at hl 0 rfl) ?_
    refine rv_getpg hx hb ht ui_X0 hown hK hM hX.nowV hi (ht _ uw_137) dX7_ledger_17 ?_
    refine lv_astore (lv' := [(4, .ref (X + 1 + 4 + 2 * i)), (3, .ref (X + 1 + 3 + 2 * i)), (0, .ref (X)), (1, .int (x)), (2, .int (y))]) hx hb dX7_ledger_20 hl (by decide) rfl (fun ls hl => ?_)
    refine lv_iload_n hx hb dX7_ledger_22 rfl (lv_at hl 4 rfl) ?_
    by_cases s_23 : (y).toInt < 0 ∨ 7 < (y).toInt
    · refine lv_tableOut (tgt := 122) hx hb dX7_ledger_23 s_23 (by decide) ?_
      refine lv_ldc (v := (-1000002)) hx hb hown (ht _ uw_340) dX7_ledger_122 ?_
      subst hQ
      exact m_zret hx hb hr (rfl) hlk hK hM hS dX7_ledger_124 (⟨by unfold oLedger; rw [e1]; exact (ledV_out s_23).symm, hMM⟩)
    by_cases s_23_0 : (y) = 0
    · refine lv_tableIn (tgt := 68) (off := 45) hx hb dX7_ledger_23 (by rw [s_23_0]; decide) (by rw [s_23_0]; decide) (by rw [s_23_0]; rfl) (by decide) ?_
      refine lv_aload hx hb dX7_ledger_68 (lv_at hl 0 rfl) ?_
      refine rv_getP hx hb ht ui_X4 hown hK hM hX.nowV hi 0 (by decide) (ht _ uw_75) dX7_ledger_70 ?_
      subst hQ
      exact m_zret hx hb hr (rfl) hlk hK hM hS dX7_ledger_73 (⟨by unfold oLedger; rw [e1, s_23_0]; rfl, hMM⟩)
    by_cases s_23_1 : (y) = 1
    · refine lv_tableIn (tgt := 74) (off := 51) hx hb dX7_ledger_23 (by rw [s_23_1]; decide) (by rw [s_23_1]; decide) (by rw [s_23_1]; rfl) (by decide) ?_
      refine lv_aload hx hb dX7_ledger_74 (lv_at hl 0 rfl) ?_
      refine rv_getP hx hb ht ui_X4 hown hK hM hX.nowV hi 1 (by decide) (ht _ uw_78) dX7_ledger_76 ?_
      subst hQ
      exact m_zret hx hb hr (rfl) hlk hK hM hS dX7_ledger_79 (⟨by unfold oLedger; rw [e1, s_23_1]; rfl, hMM⟩)
    by_cases s_23_2 : (y) = 2
    · refine lv_tableIn (tgt := 80) (off := 57) hx hb dX7_ledger_23 (by rw [s_23_2]; decide) (by rw [s_23_2]; decide) (by rw [s_23_2]; rfl) (by decide) ?_
      refine lv_aload_n hx hb dX7_ledger_80 rfl (lv_at hl 2 rfl) ?_
      refine m_get (ci := 7) (C := RX7) (T := TX7) (N := 7) hx hb ht ui_X7 hown hK hM hX.AX hX.obj rfl 0 (by decide) (ht _ uw_275) rfl dX7_ledger_81 ?_
      refine lv_aload hx hb dX7_ledger_84 (lv_at hl 0 rfl) ?_
      refine rv_getP hx hb ht ui_X4 hown hK hM hX.nowV hi 2 (by decide) (ht _ uw_82) dX7_ledger_86 ?_
      refine m_callRI (val := whC now (now.2.1 i 10)) (As := [.int (now.2.1 i 10)]) (rest := []) ⟨hx, hb, hml, hown, ht⟩ (k_X6_wheelAt l g A M (X + 1) π now (now.2.1 i 10) hX.nowV) (cwV 1 ht (gU uw_493 uw_377 uw_378 uw_35 uw_379) rfl rfl rfl (by decide +kernel) ⟨by decide, by decide⟩) hK hM hS (m_recv hK hM hX.nowV.AW hX.nowV.W rfl) rfl hl.1 rfl (Nat.le_of_ble_eq_true rfl) dX7_ledger_89 ⟨by decide, by decide⟩ (fun H locs hM hS => ?_)
      subst hQ
      exact m_zret hx hb hr (rfl) hlk hK hM hS dX7_ledger_92 (⟨by unfold oLedger; rw [e1, s_23_2]; rfl, hMM⟩)
    by_cases s_23_3 : (y) = 3
    · refine lv_tableIn (tgt := 93) (off := 70) hx hb dX7_ledger_23 (by rw [s_23_3]; decide) (by rw [s_23_3]; decide) (by rw [s_23_3]; rfl) (by decide) ?_
      refine lv_aload_n hx hb dX7_ledger_93 rfl (lv_at hl 1 rfl) ?_
      refine m_callRI (val := now.2.1 i 5 - now.2.1 i 8) (As := []) (rest := []) ⟨hx, hb, hml, hown, ht⟩ (k_X0_gap l g A M (X + 1) π now i hX.nowV hi) (cwV 0 ht (gU uw_494 uw_495 uw_496 uw_36 uw_497) rfl rfl rfl (by decide +kernel) ⟨by decide, by decide⟩) hK hM hS (m_recv hK hM (hX.nowV.AG hi) (hX.nowV.G hi) rfl) rfl hl.1 rfl (Nat.le_of_ble_eq_true rfl) dX7_ledger_94 ⟨by decide, by decide⟩ (fun H locs hM hS => ?_)
      subst hQ
      exact m_zret hx hb hr (rfl) hlk hK hM hS dX7_ledger_97 (⟨by unfold oLedger; rw [e1, s_23_3]; rfl, hMM⟩)
    by_cases s_23_4 : (y) = 4
    · refine lv_tableIn (tgt := 98) (off := 75) hx hb dX7_ledger_23 (by rw [s_23_4]; decide) (by rw [s_23_4]; decide) (by rw [s_23_4]; rfl) (by decide) ?_
      refine lv_aload hx hb dX7_ledger_98 (lv_at hl 0 rfl) ?_
      refine rv_getP hx hb ht ui_X4 hown hK hM hX.nowV hi 4 (by decide) (ht _ uw_87) dX7_ledger_100 ?_
      subst hQ
      exact m_zret hx hb hr (rfl) hlk hK hM hS dX7_ledger_103 (⟨by unfold oLedger; rw [e1, s_23_4]; rfl, hMM⟩)
    by_cases s_23_5 : (y) = 5
    · refine lv_tableIn (tgt := 104) (off := 81) hx hb dX7_ledger_23 (by rw [s_23_5]; decide) (by rw [s_23_5]; decide) (by rw [s_23_5]; rfl) (by decide) ?_
      refine lv_aload hx hb dX7_ledger_104 (lv_at hl 0 rfl) ?_
      refine rv_getP hx hb ht ui_X4 hown hK hM hX.nowV hi 5 (by decide) (ht _ uw_90) dX7_ledger_106 ?_
      subst hQ
      exact m_zret hx hb hr (rfl) hlk hK hM hS dX7_ledger_109 (⟨by unfold oLedger; rw [e1, s_23_5]; rfl, hMM⟩)
    by_cases s_23_6 : (y) = 6
    · refine lv_tableIn (tgt := 110) (off := 87) hx hb dX7_ledger_23 (by rw [s_23_6]; decide) (by rw [s_23_6]; decide) (by rw [s_23_6]; rfl) (by decide) ?_
      refine lv_aload hx hb dX7_ledger_110 (lv_at hl 0 rfl) ?_
      refine rv_getP hx hb ht ui_X4 hown hK hM hX.nowV hi 6 (by decide) (ht _ uw_93) dX7_ledger_112 ?_
      subst hQ
      exact m_zret hx hb hr (rfl) hlk hK hM hS dX7_ledger_115 (⟨by unfold oLedger; rw [e1, s_23_6]; rfl, hMM⟩)
    by_cases s_23_7 : (y) = 7
    · refine lv_tableIn (tgt := 116) (off := 93) hx hb dX7_ledger_23 (by rw [s_23_7]; decide) (by rw [s_23_7]; decide) (by rw [s_23_7]; rfl) (by decide) ?_
      refine lv_aload hx hb dX7_ledger_116 (lv_at hl 0 rfl) ?_
      refine rv_getP hx hb ht ui_X4 hown hK hM hX.nowV hi 7 (by decide) (ht _ uw_96) dX7_ledger_118 ?_
      subst hQ
      exact m_zret hx hb hr (rfl) hlk hK hM hS dX7_ledger_121 (⟨by unfold oLedger; rw [e1, s_23_7]; rfl, hMM⟩)
    exfalso
    have n_0 := lv_neT (a := 0) s_23_0 (by decide)
    have n_1 := lv_neT (a := 1) s_23_1 (by decide)
    have n_2 := lv_neT (a := 2) s_23_2 (by decide)
    have n_3 := lv_neT (a := 3) s_23_3 (by decide)
    have n_4 := lv_neT (a := 4) s_23_4 (by decide)
    have n_5 := lv_neT (a := 5) s_23_5 (by decide)
    have n_6 := lv_neT (a := 6) s_23_6 (by decide)
    have n_7 := lv_neT (a := 7) s_23_7 (by decide)
    omega

set_option maxHeartbeats 4000000 in
set_option maxRecDepth 100000 in
/-- runner -/
theorem k_X7_runner (l : Launch) (g : GG) (A : Nat → Prop) (M0 : MM) (X : Nat) (now : VV) (hs : Nat → VV) (k : Nat) (sl : Nat → VV) (sv f : Nat → Int32) (L : Nat) (hR : RXS g A M0 M0 X (now, hs, k, sl, sv, f, L)) (hI : CI (now, hs, k, sl, sv, f, L)) (x y : Int32)  : Met l yX7_runner (Uw yX7_runner cX7_runner 4 (Option.some ClassFile.FieldType.int)) (rmD 1) (PreM [.ref (X), .int (x), .int (y)] g A M0) (PosI (fun r M1 => r = oRunner (now, hs, k, sl, sv, f, L) x y ∧ M1 = M0) g A) 0 0 A := by
  refine mk_Met (own := RX7) rfl rfl (by decide) (Nat.le_of_ble_eq_true rfl) ?_
  intro p e s m below meth c ls aa Q haa hQ hx hb hr hlk hml hown hts hK hM hS hl hnm
  obtain ⟨M, hMM⟩ : ∃ M, M = M0 := ⟨_, rfl⟩
  rw [← hMM] at hM hR
  have ht : ∀ w ∈ lw_good, w.before _ s = true := fun w h => hts w (List.mem_cons_of_mem _ h)
  have hl : lv_has ls 4 [(0, .ref (X)), (1, .int (x)), (2, .int (y))] := hl
  obtain ⟨π, hX⟩ := hR
  have hX : RX g A M0 M X π now hs k sl sv f L := ⟨hX.1, by rw [hMM]; exact FrX.rf⟩
  obtain ⟨⟨n, hn20, hn⟩, hk6, hhs, hsl, hL, hch⟩ := id hI
  have hN : onN now = n := onN_eq hn hn20
  rcases ru_cases (v := now) hn hn20 x with e1 | ⟨j, hjn, ex, e1⟩
  · refine lv_aload_n hx hb dX7_runner_0 rfl (lv_at hl 0 rfl) ?_
    refine m_get (ci := 7) (C := RX7) (T := TX7) (N := 7) hx hb ht ui_X7 hown hK hM hX.AX hX.obj rfl 0 (by decide) (ht _ uw_275) rfl dX7_runner_1 ?_
    refine lv_iload_n hx hb dX7_runner_4 rfl (lv_at hl 1 rfl) ?_
    refine m_callRQ (val := none) (w := .null) (rfl) (As := [.int (x)]) (rest := []) ⟨hx, hb, hml, hown, ht⟩ (k_X6_runnerAt l g A M (X + 1) π now (x) none hX.nowV e1) (cwV 1 ht (gU uw_418 uw_369 uw_370 uw_35 uw_371) rfl rfl rfl (by decide +kernel) ⟨by decide, by decide⟩) hK hM hS (m_recv hK hM hX.nowV.AW hX.nowV.W rfl) rfl hl.1 rfl (Nat.le_of_ble_eq_true rfl) dX7_runner_5 ⟨by decide, by decide⟩ (fun H locs hM hS => ?_)
    refine lv_astore_nN (lv' := [(3, .null), (0, .ref (X)), (1, .int (x)), (2, .int (y))]) hx hb dX7_runner_8 rfl hl (by decide) rfl (fun ls hl => ?_)
    refine lv_aload_nN hx hb dX7_runner_9 rfl (lv_at hl 0 rfl) ?_
    refine lv_ifnonnullN hx hb dX7_runner_10 ?_
    refine lv_ldc (v := (-1000001)) hx hb hown (ht _ uw_346) dX7_runner_13 ?_
    subst hQ
    exact m_zret hx hb hr (rfl) hlk hK hM hS dX7_runner_15 (⟨by unfold oRunner; rw [show ruN (now, hs, k, sl, sv, f, L) x = none from e1], hMM⟩)
  · have hj : j < 20 := by omega
    refine lv_aload_n hx hb dX7_runner_0 rfl (lv_at hl 0 rfl) ?_
    refine m_get (ci := 7) (C := RX7) (T := TX7) (N := 7) hx hb ht ui_X7 hown hK hM hX.AX hX.obj rfl 0 (by decide) (ht _ uw_275) rfl dX7_runner_1 ?_
    refine lv_iload_n hx hb dX7_runner_4 rfl (lv_at hl 1 rfl) ?_
    refine m_callRQ (val := some (X + 1 + 15 + π j)) (w := .ref (X + 1 + 15 + π j)) (rfl) (As := [.int (x)]) (rest := []) ⟨hx, hb, hml, hown, ht⟩ (k_X6_runnerAt l g A M (X + 1) π now (x) (some j) hX.nowV e1) (cwV 1 ht (gU uw_418 uw_369 uw_370 uw_35 uw_371) rfl rfl rfl (by decide +kernel) ⟨by decide, by decide⟩) hK hM hS (m_recv hK hM hX.nowV.AW hX.nowV.W rfl) rfl hl.1 rfl (Nat.le_of_ble_eq_true rfl) dX7_runner_5 ⟨by decide, by decide⟩ (fun H locs hM hS => ?_)
    refine lv_astore_n (lv' := [(3, .ref (X + 1 + 15 + π j)), (0, .ref (X)), (1, .int (x)), (2, .int (y))]) hx hb dX7_runner_8 rfl hl (by decide) rfl (fun ls hl => ?_)
    refine lv_aload_n hx hb dX7_runner_9 rfl (lv_at hl 0 rfl) ?_
    refine lv_ifnonnull (tgt := 16) hx hb dX7_runner_10 (by decide) ?_
    refine lv_iload_n hx hb dX7_runner_16 rfl (lv_at hl 3 rfl) ?_
    by_cases s_17 : (y).toInt < 0 ∨ 3 < (y).toInt
    · refine lv_tableOut (tgt := 75) hx hb dX7_runner_17 s_17 (by decide) ?_
      refine lv_ldc (v := (-1000002)) hx hb hown (ht _ uw_340) dX7_runner_75 ?_
      subst hQ
      exact m_zret hx hb hr (rfl) hlk hK hM hS dX7_runner_77 (⟨by unfold oRunner; rw [show ruN (now, hs, k, sl, sv, f, L) x = some j from e1]; exact (runV_out s_17).symm, hMM⟩)
    by_cases s_17_0 : (y) = 0
    · refine lv_tableIn (tgt := 48) (off := 31) hx hb dX7_runner_17 (by rw [s_17_0]; decide) (by rw [s_17_0]; decide) (by rw [s_17_0]; rfl) (by decide) ?_
      refine lv_aload_n hx hb dX7_runner_48 rfl (lv_at hl 0 rfl) ?_
      refine rv_getR hx hb ht ui_X5 hown hK hM hX.nowV hj 0 (by decide) (ht _ uw_164) dX7_runner_49 ?_
      subst hQ
      exact m_zret hx hb hr (rfl) hlk hK hM hS dX7_runner_52 (⟨by unfold oRunner; rw [show ruN (now, hs, k, sl, sv, f, L) x = some j from e1, s_17_0]; rfl, hMM⟩)
    by_cases s_17_1 : (y) = 1
    · refine lv_tableIn (tgt := 53) (off := 36) hx hb dX7_runner_17 (by rw [s_17_1]; decide) (by rw [s_17_1]; decide) (by rw [s_17_1]; rfl) (by decide) ?_
      refine lv_aload_n hx hb dX7_runner_53 rfl (lv_at hl 1 rfl) ?_
      refine m_get (ci := 7) (C := RX7) (T := TX7) (N := 7) hx hb ht ui_X7 hown hK hM hX.AX hX.obj rfl 0 (by decide) (ht _ uw_275) rfl dX7_runner_54 ?_
      refine lv_aload_n hx hb dX7_runner_57 rfl (lv_at hl 0 rfl) ?_
      refine rv_getR hx hb ht ui_X5 hown hK hM hX.nowV hj 1 (by decide) (ht _ uw_168) dX7_runner_58 ?_
      refine m_callRI (val := whC now (now.2.2 j 1)) (As := [.int (now.2.2 j 1)]) (rest := []) ⟨hx, hb, hml, hown, ht⟩ (k_X6_wheelAt l g A M (X + 1) π now (now.2.2 j 1) hX.nowV) (cwV 1 ht (gU uw_493 uw_377 uw_378 uw_35 uw_379) rfl rfl rfl (by decide +kernel) ⟨by decide, by decide⟩) hK hM hS (m_recv hK hM hX.nowV.AW hX.nowV.W rfl) rfl hl.1 rfl (Nat.le_of_ble_eq_true rfl) dX7_runner_61 ⟨by decide, by decide⟩ (fun H locs hM hS => ?_)
      subst hQ
      exact m_zret hx hb hr (rfl) hlk hK hM hS dX7_runner_64 (⟨by unfold oRunner; rw [show ruN (now, hs, k, sl, sv, f, L) x = some j from e1, s_17_1]; rfl, hMM⟩)
    by_cases s_17_2 : (y) = 2
    · refine lv_tableIn (tgt := 65) (off := 48) hx hb dX7_runner_17 (by rw [s_17_2]; decide) (by rw [s_17_2]; decide) (by rw [s_17_2]; rfl) (by decide) ?_
      refine lv_aload_n hx hb dX7_runner_65 rfl (lv_at hl 0 rfl) ?_
      refine rv_getR hx hb ht ui_X5 hown hK hM hX.nowV hj 2 (by decide) (ht _ uw_171) dX7_runner_66 ?_
      subst hQ
      exact m_zret hx hb hr (rfl) hlk hK hM hS dX7_runner_69 (⟨by unfold oRunner; rw [show ruN (now, hs, k, sl, sv, f, L) x = some j from e1, s_17_2]; rfl, hMM⟩)
    by_cases s_17_3 : (y) = 3
    · refine lv_tableIn (tgt := 70) (off := 53) hx hb dX7_runner_17 (by rw [s_17_3]; decide) (by rw [s_17_3]; decide) (by rw [s_17_3]; rfl) (by decide) ?_
      refine lv_aload_n hx hb dX7_runner_70 rfl (lv_at hl 0 rfl) ?_
      refine rv_getR hx hb ht ui_X5 hown hK hM hX.nowV hj 4 (by decide) (ht _ uw_176) dX7_runner_71 ?_
      subst hQ
      exact m_zret hx hb hr (rfl) hlk hK hM hS dX7_runner_74 (⟨by unfold oRunner; rw [show ruN (now, hs, k, sl, sv, f, L) x = some j from e1, s_17_3]; rfl, hMM⟩)
    exfalso
    have n_0 := lv_neT (a := 0) s_17_0 (by decide)
    have n_1 := lv_neT (a := 1) s_17_1 (by decide)
    have n_2 := lv_neT (a := 2) s_17_2 (by decide)
    have n_3 := lv_neT (a := 3) s_17_3 (by decide)
    omega

set_option maxHeartbeats 4000000 in
set_option maxRecDepth 100000 in
/-- count -/
theorem k_X7_count (l : Launch) (g : GG) (A : Nat → Prop) (M0 : MM) (X : Nat) (now : VV) (hs : Nat → VV) (k : Nat) (sl : Nat → VV) (sv f : Nat → Int32) (L : Nat) (hR : RXS g A M0 M0 X (now, hs, k, sl, sv, f, L)) (hI : CI (now, hs, k, sl, sv, f, L)) (x : Int32)  : Met l yX7_count (Uw yX7_count cX7_count 2 (Option.some ClassFile.FieldType.int)) (rmD 3) (PreM [.ref (X), .int (x)] g A M0) (PosI (fun r M1 => r = oCount (now, hs, k, sl, sv, f, L) x ∧ M1 = M0) g A) 0 0 A := by
  refine mk_Met (own := RX7) rfl rfl (by decide) (Nat.le_of_ble_eq_true rfl) ?_
  intro p e s m below meth c ls aa Q haa hQ hx hb hr hlk hml hown hts hK hM hS hl hnm
  obtain ⟨M, hMM⟩ : ∃ M, M = M0 := ⟨_, rfl⟩
  rw [← hMM] at hM hR
  have ht : ∀ w ∈ lw_good, w.before _ s = true := fun w h => hts w (List.mem_cons_of_mem _ h)
  have hl : lv_has ls 2 [(0, .ref (X)), (1, .int (x))] := hl
  obtain ⟨π, hX⟩ := hR
  have hX : RX g A M0 M X π now hs k sl sv f L := ⟨hX.1, by rw [hMM]; exact FrX.rf⟩
  obtain ⟨⟨n, hn20, hn⟩, hk6, hhs, hsl, hL, hch⟩ := id hI
  have hN : onN now = n := onN_eq hn hn20
  refine lv_iload_n hx hb dX7_count_0 rfl (lv_at hl 1 rfl) ?_
  by_cases s_1 : (x).toInt < 0 ∨ 10 < (x).toInt
  · refine lv_tableOut (tgt := 162) hx hb dX7_count_1 s_1 (by decide) ?_
    refine lv_ldc (v := (-1000002)) hx hb hown (ht _ uw_340) dX7_count_162 ?_
    subst hQ
    exact m_zret hx hb hr (rfl) hlk hK hM hS dX7_count_164 (⟨(oCount_out s_1).symm, hMM⟩)
  by_cases s_1_0 : (x) = 0
  · refine lv_tableIn (tgt := 60) (off := 59) hx hb dX7_count_1 (by rw [s_1_0]; decide) (by rw [s_1_0]; decide) (by rw [s_1_0]; rfl) (by decide) ?_
    refine lv_aload_n hx hb dX7_count_60 rfl (lv_at hl 0 rfl) ?_
    refine m_get (ci := 7) (C := RX7) (T := TX7) (N := 7) hx hb ht ui_X7 hown hK hM hX.AX hX.obj rfl 0 (by decide) (ht _ uw_275) rfl dX7_count_61 ?_
    refine rv_getW hx hb ht ui_X6 hown hK hM hX.nowV 0 (by decide) (ht _ uw_189) dX7_count_64 ?_
    subst hQ
    exact m_zret hx hb hr (rfl) hlk hK hM hS dX7_count_67 (⟨by rw [s_1_0]; rfl, hMM⟩)
  by_cases s_1_1 : (x) = 1
  · refine lv_tableIn (tgt := 68) (off := 67) hx hb dX7_count_1 (by rw [s_1_1]; decide) (by rw [s_1_1]; decide) (by rw [s_1_1]; rfl) (by decide) ?_
    refine lv_aload_n hx hb dX7_count_68 rfl (lv_at hl 0 rfl) ?_
    refine m_get (ci := 7) (C := RX7) (T := TX7) (N := 7) hx hb ht ui_X7 hown hK hM hX.AX hX.obj rfl 0 (by decide) (ht _ uw_275) rfl dX7_count_69 ?_
    refine rv_getW hx hb ht ui_X6 hown hK hM hX.nowV 1 (by decide) (ht _ uw_191) dX7_count_72 ?_
    subst hQ
    exact m_zret hx hb hr (rfl) hlk hK hM hS dX7_count_75 (⟨by rw [s_1_1]; rfl, hMM⟩)
  by_cases s_1_2 : (x) = 2
  · refine lv_tableIn (tgt := 76) (off := 75) hx hb dX7_count_1 (by rw [s_1_2]; decide) (by rw [s_1_2]; decide) (by rw [s_1_2]; rfl) (by decide) ?_
    refine lv_aload_n hx hb dX7_count_76 rfl (lv_at hl 0 rfl) ?_
    refine m_get (ci := 7) (C := RX7) (T := TX7) (N := 7) hx hb ht ui_X7 hown hK hM hX.AX hX.obj rfl 0 (by decide) (ht _ uw_275) rfl dX7_count_77 ?_
    refine rv_getW hx hb ht ui_X6 hown hK hM hX.nowV 2 (by decide) (ht _ uw_193) dX7_count_80 ?_
    subst hQ
    exact m_zret hx hb hr (rfl) hlk hK hM hS dX7_count_83 (⟨by rw [s_1_2]; rfl, hMM⟩)
  by_cases s_1_3 : (x) = 3
  · refine lv_tableIn (tgt := 84) (off := 83) hx hb dX7_count_1 (by rw [s_1_3]; decide) (by rw [s_1_3]; decide) (by rw [s_1_3]; rfl) (by decide) ?_
    refine lv_aload_n hx hb dX7_count_84 rfl (lv_at hl 0 rfl) ?_
    refine m_get (ci := 7) (C := RX7) (T := TX7) (N := 7) hx hb ht ui_X7 hown hK hM hX.AX hX.obj rfl 0 (by decide) (ht _ uw_275) rfl dX7_count_85 ?_
    refine rv_getW hx hb ht ui_X6 hown hK hM hX.nowV 3 (by decide) (ht _ uw_195) dX7_count_88 ?_
    subst hQ
    exact m_zret hx hb hr (rfl) hlk hK hM hS dX7_count_91 (⟨by rw [s_1_3]; rfl, hMM⟩)
  by_cases s_1_4 : (x) = 4
  · refine lv_tableIn (tgt := 92) (off := 91) hx hb dX7_count_1 (by rw [s_1_4]; decide) (by rw [s_1_4]; decide) (by rw [s_1_4]; rfl) (by decide) ?_
    refine lv_aload_n hx hb dX7_count_92 rfl (lv_at hl 0 rfl) ?_
    refine m_get (ci := 7) (C := RX7) (T := TX7) (N := 7) hx hb ht ui_X7 hown hK hM hX.AX hX.obj rfl 0 (by decide) (ht _ uw_275) rfl dX7_count_93 ?_
    refine lv_bipush (v := 7) hx hb dX7_count_96 (by first | rfl | decide) ?_
    refine m_callRI (val := sumN (fun i => facC now i (7)) 6) (As := [.int (7)]) (rest := []) ⟨hx, hb, hml, hown, ht⟩ (k_X6_sumOf l g A M (X + 1) π now (7) hX.nowV) (cwV 1 ht (gU uw_506 uw_507 uw_508 uw_35 uw_509) rfl rfl rfl (by decide +kernel) ⟨by decide, by decide⟩) hK hM hS (m_recv hK hM hX.nowV.AW hX.nowV.W rfl) rfl hl.1 rfl (Nat.le_of_ble_eq_true rfl) dX7_count_98 ⟨by decide, by decide⟩ (fun H locs hM hS => ?_)
    subst hQ
    exact m_zret hx hb hr (rfl) hlk hK hM hS dX7_count_101 (⟨by rw [s_1_4]; rfl, hMM⟩)
  by_cases s_1_5 : (x) = 5
  · refine lv_tableIn (tgt := 102) (off := 101) hx hb dX7_count_1 (by rw [s_1_5]; decide) (by rw [s_1_5]; decide) (by rw [s_1_5]; rfl) (by decide) ?_
    refine lv_aload_n hx hb dX7_count_102 rfl (lv_at hl 0 rfl) ?_
    refine m_get (ci := 7) (C := RX7) (T := TX7) (N := 7) hx hb ht ui_X7 hown hK hM hX.AX hX.obj rfl 0 (by decide) (ht _ uw_275) rfl dX7_count_103 ?_
    refine lv_bipush (v := 8) hx hb dX7_count_106 (by first | rfl | decide) ?_
    refine m_callRI (val := sumN (fun i => facC now i (8)) 6) (As := [.int (8)]) (rest := []) ⟨hx, hb, hml, hown, ht⟩ (k_X6_sumOf l g A M (X + 1) π now (8) hX.nowV) (cwV 1 ht (gU uw_506 uw_507 uw_508 uw_35 uw_509) rfl rfl rfl (by decide +kernel) ⟨by decide, by decide⟩) hK hM hS (m_recv hK hM hX.nowV.AW hX.nowV.W rfl) rfl hl.1 rfl (Nat.le_of_ble_eq_true rfl) dX7_count_108 ⟨by decide, by decide⟩ (fun H locs hM hS => ?_)
    refine lv_aload_n hx hb dX7_count_111 rfl (lv_at hl 0 rfl) ?_
    refine m_get (ci := 7) (C := RX7) (T := TX7) (N := 7) hx hb ht ui_X7 hown hK hM hX.AX hX.obj rfl 0 (by decide) (ht _ uw_275) rfl dX7_count_112 ?_
    refine lv_iconst (v := 4) hx hb dX7_count_115 (by first | rfl | decide) ?_
    refine m_callRI (val := sumN (fun i => facC now i (4)) 6) (As := [.int (4)]) (rest := [.int (sumN (fun i => facC now i (8)) 6)]) ⟨hx, hb, hml, hown, ht⟩ (k_X6_sumOf l g A M (X + 1) π now (4) hX.nowV) (cwV 1 ht (gU uw_506 uw_507 uw_508 uw_35 uw_509) rfl rfl rfl (by decide +kernel) ⟨by decide, by decide⟩) hK hM hS (m_recv hK hM hX.nowV.AW hX.nowV.W rfl) rfl hl.1 rfl (Nat.le_of_ble_eq_true rfl) dX7_count_116 ⟨by decide, by decide⟩ (fun H locs hM hS => ?_)
    refine lv_iadd hx hb dX7_count_119 ?_
    subst hQ
    exact m_zret hx hb hr (rfl) hlk hK hM hS dX7_count_120 (⟨by rw [s_1_5]; rfl, hMM⟩)
  by_cases s_1_6 : (x) = 6
  · refine lv_tableIn (tgt := 121) (off := 120) hx hb dX7_count_1 (by rw [s_1_6]; decide) (by rw [s_1_6]; decide) (by rw [s_1_6]; rfl) (by decide) ?_
    refine lv_aload_n hx hb dX7_count_121 rfl (lv_at hl 0 rfl) ?_
    refine m_get (ci := 7) (C := RX7) (T := TX7) (N := 7) hx hb ht ui_X7 hown hK hM hX.AX hX.obj rfl 0 (by decide) (ht _ uw_275) rfl dX7_count_122 ?_
    refine lv_iconst (v := 5) hx hb dX7_count_125 (by first | rfl | decide) ?_
    refine m_callRI (val := sumN (fun i => facC now i (5)) 6) (As := [.int (5)]) (rest := []) ⟨hx, hb, hml, hown, ht⟩ (k_X6_sumOf l g A M (X + 1) π now (5) hX.nowV) (cwV 1 ht (gU uw_506 uw_507 uw_508 uw_35 uw_509) rfl rfl rfl (by decide +kernel) ⟨by decide, by decide⟩) hK hM hS (m_recv hK hM hX.nowV.AW hX.nowV.W rfl) rfl hl.1 rfl (Nat.le_of_ble_eq_true rfl) dX7_count_126 ⟨by decide, by decide⟩ (fun H locs hM hS => ?_)
    subst hQ
    exact m_zret hx hb hr (rfl) hlk hK hM hS dX7_count_129 (⟨by rw [s_1_6]; rfl, hMM⟩)
  by_cases s_1_7 : (x) = 7
  · refine lv_tableIn (tgt := 130) (off := 129) hx hb dX7_count_1 (by rw [s_1_7]; decide) (by rw [s_1_7]; decide) (by rw [s_1_7]; rfl) (by decide) ?_
    refine lv_aload_n hx hb dX7_count_130 rfl (lv_at hl 0 rfl) ?_
    refine m_get (ci := 7) (C := RX7) (T := TX7) (N := 7) hx hb ht ui_X7 hown hK hM hX.AX hX.obj rfl 0 (by decide) (ht _ uw_275) rfl dX7_count_131 ?_
    refine m_callRI (val := sumN (fun i => now.2.1 i 8) 6) (As := []) (rest := []) ⟨hx, hb, hml, hown, ht⟩ (k_X6_sumOfTold l g A M (X + 1) π now hX.nowV) (cwV 0 ht (gU uw_511 uw_512 uw_513 uw_35 uw_514) rfl rfl rfl (by decide +kernel) ⟨by decide, by decide⟩) hK hM hS (m_recv hK hM hX.nowV.AW hX.nowV.W rfl) rfl hl.1 rfl (Nat.le_of_ble_eq_true rfl) dX7_count_134 ⟨by decide, by decide⟩ (fun H locs hM hS => ?_)
    subst hQ
    exact m_zret hx hb hr (rfl) hlk hK hM hS dX7_count_137 (⟨by rw [s_1_7]; rfl, hMM⟩)
  by_cases s_1_8 : (x) = 8
  · refine lv_tableIn (tgt := 138) (off := 137) hx hb dX7_count_1 (by rw [s_1_8]; decide) (by rw [s_1_8]; decide) (by rw [s_1_8]; rfl) (by decide) ?_
    refine lv_aload_n hx hb dX7_count_138 rfl (lv_at hl 0 rfl) ?_
    refine m_get (ci := 7) (C := RX7) (T := TX7) (N := 7) hx hb ht ui_X7 hown hK hM hX.AX hX.obj rfl 0 (by decide) (ht _ uw_275) rfl dX7_count_139 ?_
    refine m_callRI (val := gapN now 6) (As := []) (rest := []) ⟨hx, hb, hml, hown, ht⟩ (k_X6_gaugesWithGap l g A M (X + 1) π now hX.nowV) (cwV 0 ht (gU uw_515 uw_516 uw_517 uw_35 uw_518) rfl rfl rfl (by decide +kernel) ⟨by decide, by decide⟩) hK hM hS (m_recv hK hM hX.nowV.AW hX.nowV.W rfl) rfl hl.1 rfl (Nat.le_of_ble_eq_true rfl) dX7_count_142 ⟨by decide, by decide⟩ (fun H locs hM hS => ?_)
    subst hQ
    exact m_zret hx hb hr (rfl) hlk hK hM hS dX7_count_145 (⟨by rw [s_1_8]; rfl, hMM⟩)
  by_cases s_1_9 : (x) = 9
  · refine lv_tableIn (tgt := 146) (off := 145) hx hb dX7_count_1 (by rw [s_1_9]; decide) (by rw [s_1_9]; decide) (by rw [s_1_9]; rfl) (by decide) ?_
    refine lv_aload_n hx hb dX7_count_146 rfl (lv_at hl 0 rfl) ?_
    obtain ⟨rs, hTx⟩ := hX.txt
    refine m_get (ci := 7) (C := RX7) (T := TX7) (N := 7) hx hb ht ui_X7 hown hK hM hX.AX hX.obj rfl 5 (by decide) (ht _ uw_280) rfl dX7_count_147 ?_
    refine rt_getPl hx hb ht ui_X3 hown hK hM hTx (ht _ uw_238) dX7_count_150 ?_
    subst hQ
    exact m_zret hx hb hr (rfl) hlk hK hM hS dX7_count_153 (⟨by rw [s_1_9]; rfl, hMM⟩)
  by_cases s_1_10 : (x) = 10
  · refine lv_tableIn (tgt := 154) (off := 153) hx hb dX7_count_1 (by rw [s_1_10]; decide) (by rw [s_1_10]; decide) (by rw [s_1_10]; rfl) (by decide) ?_
    refine lv_aload_n hx hb dX7_count_154 rfl (lv_at hl 0 rfl) ?_
    skip
    refine m_get (ci := 7) (C := RX7) (T := TX7) (N := 7) hx hb ht ui_X7 hown hK hM hX.AX hX.obj rfl 2 (by decide) (ht _ uw_277) rfl dX7_count_155 ?_
    obtain ⟨ρ9, πs9, hH9⟩ := hX.his
    refine rh_getSz hx hb ht ui_X1 hown hK hM hH9 (ht _ uw_223) dX7_count_158 ?_
    subst hQ
    exact m_zret hx hb hr (rfl) hlk hK hM hS dX7_count_161 (⟨by rw [s_1_10]; rfl, hMM⟩)
  exfalso
  have n_0 := lv_neT (a := 0) s_1_0 (by decide)
  have n_1 := lv_neT (a := 1) s_1_1 (by decide)
  have n_2 := lv_neT (a := 2) s_1_2 (by decide)
  have n_3 := lv_neT (a := 3) s_1_3 (by decide)
  have n_4 := lv_neT (a := 4) s_1_4 (by decide)
  have n_5 := lv_neT (a := 5) s_1_5 (by decide)
  have n_6 := lv_neT (a := 6) s_1_6 (by decide)
  have n_7 := lv_neT (a := 7) s_1_7 (by decide)
  have n_8 := lv_neT (a := 8) s_1_8 (by decide)
  have n_9 := lv_neT (a := 9) s_1_9 (by decide)
  have n_10 := lv_neT (a := 10) s_1_10 (by decide)
  omega

