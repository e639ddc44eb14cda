theorem cpyC_3 {v w : VV} {n : Nat} (h : w.1 3 = nI n) {m : Nat} : (cpyC v w m).1 3 = nI n := h
def untL (i : Nat) (am : Int32) : Nat → Nat → VV → Int32
  | 0, _, _ => -1000006
  | z + 1, o, v => if v.1 0 ≤ v.2.1 i 5 - v.2.1 i 10 then nI o else untL i am z (o + 1) (catC v i am)
def oUntil (v : VV) (x y : Int32) : Int32 := match gxn 6 x with
  | none => -1000001
  | some i => if winC y 0 99 = 0 then -1000002 else untL i y 501 0 v
theorem unt_e {v : VV} {x y : Int32} {i : Nat} (e : gxn 6 x = some i) (h : ¬ winC y 0 99 = 0) : oUntil v x y = untL i y 501 0 v := by unfold oUntil; rw [e]; exact if_neg h
theorem unt_s {i o : Nat} {y : Int32} {v : VV} (h : o ≤ 500) : untL i y (501 - o) o v = if v.1 0 ≤ v.2.1 i 5 - v.2.1 i 10 then nI o else untL i y (501 - (o + 1)) (o + 1) (catC v i y) := by
  rw [show 501 - o = (501 - (o + 1)) + 1 by omega]
  rfl
theorem unt_1 {i o : Nat} {y : Int32} {v : VV} (h : o ≤ 500) (c : v.1 0 ≤ v.2.1 i 5 - v.2.1 i 10) : untL i y (501 - o) o v = nI o := by rw [unt_s h, if_pos c]
theorem unt_2 {i o : Nat} {y : Int32} {v : VV} (h : o ≤ 500) (c : v.2.1 i 5 - v.2.1 i 10 < v.1 0) : untL i y (501 - (o + 1)) (o + 1) (catC v i y) = untL i y (501 - o) o v := by rw [unt_s h, if_neg (Int32.not_le.mpr c)]
theorem unt_0 {i o : Nat} {y : Int32} {v : VV} (h : 500 < o) : untL i y (501 - o) o v = -1000006 := by
  rw [show 501 - o = 0 by omega]
  rfl
def oIfSent (v : VV) (x : Int32) : Int32 := match gxn 6 x with
  | none => -1000001
  | some i => (senC (vG (vW v 3 0) i 3 0) i 0).2.1 i 5 - (senC (vG (vW v 3 0) i 3 0) i 0).2.1 i 8
def oIfAll (v : VV) (n : Nat) (x : Int32) : Int32 := match gxn 6 x with
  | none => -1000001
  | some i => (pasC 0 v (lonC v n).toNatClampNeg).2.1 i 5 - (pasC 0 v (lonC v n).toNatClampNeg).2.1 i 8
theorem lonC_0 (v : VV) (n : Nat) : 0 ≤ lonC v n := by
  induction n with
  | zero => exact Int32.le_refl _
  | succ n ih =>
    unfold lonC
    split
    · rename_i h
      exact Int32.le_trans ih (Int32.le_of_lt h)
    · exact ih
def mosP (v : VV) : Nat → Int32 × Int32
  | 0 => (0, -1000006)
  | i + 1 => if (mosP v i).1 < v.2.1 i 5 - v.2.1 i 10 then (v.2.1 i 5 - v.2.1 i 10, nI i) else mosP v i
def mosL (v : VV) (n : Nat) : Int32 := (mosP v n).2
theorem mos_y {v : VV} {i : Nat} {a b : Int32} (h : (a, b) = mosP v i) (c : ¬ v.2.1 i 5 - v.2.1 i 10 ≤ a) : (v.2.1 i 5 - v.2.1 i 10, nI i) = mosP v (i + 1) := by
  unfold mosP
  rw [← h]
  exact (if_pos (Int32.not_le.mp c)).symm
theorem mos_n {v : VV} {i : Nat} {a b : Int32} (h : (a, b) = mosP v i) (c : v.2.1 i 5 - v.2.1 i 10 ≤ a) : (a, b) = mosP v (i + 1) := by
  unfold mosP
  rw [← h]
  exact (if_neg (Int32.not_lt.mpr c)).symm
def oWipe (c : CS) : Int32 × CS := (nI c.2.2.2.2.2.2, c.1, c.2.1, c.2.2.1, c.2.2.2.1, c.2.2.2.2.1, c.2.2.2.2.2.1, 0)
def oFault (c : CS) : Int32 × CS := ((match fauC c.2.2.2.2.2.1 c.2.2.2.2.2.2 60 0 with | none => -1000006 | some q => nI q), c)
def oUndo (c : CS) : Int32 × CS := match c.2.2.1 with
  | 0 => (-1000005, c)
  | k + 1 => (nI k, cpyC c.1 (c.2.1 k) (onN (c.2.1 k)), c.2.1, k, c.2.2.2)
def oSave (c : CS) (x : Int32) : Int32 × CS := if winC x 0 1 = 0 then (-1000002, c) else
  let i := x.toNatClampNeg
  (c.1.1 2, c.1, c.2.1, c.2.2.1, va_up c.2.2.2.1 i (cpyC (c.2.2.2.1 i) c.1 (onN c.1)), upd c.2.2.2.2.1 i (vp_nar .boolean 1), c.2.2.2.2.2)
def oRestore (c : CS) (x : Int32) : Int32 × CS := if winC x 0 1 = 0 then (-1000002, c) else
  let i := x.toNatClampNeg
  if c.2.2.2.2.1 i = 0 then (-1000005, c) else
  ((cpyC c.1 (c.2.2.2.1 i) (onN (c.2.2.2.1 i))).1 2, recX c (cpyC c.1 (c.2.2.2.1 i) (onN (c.2.2.2.1 i))))
set_option maxHeartbeats 4000000 in
set_option maxRecDepth 100000 in
/-- untilRound -/
theorem k_X7_untilRound (l : Launch) (g : GG) (A : Nat → Prop) (M0 : MM) (X : Nat) (now : VV) (hs : Nat → VV) (k : Nat) (sl : Nat → VV) (sv f : Nat → Int32) (L : Nat) (hR : RXS g A M0 M0 X (now, hs, k, sl, sv, f, L)) (hI : CI (now, hs, k, sl, sv, f, L)) (x y : Int32)  : Met l yX7_untilRound (Uw yX7_untilRound cX7_untilRound 5 (Option.some ClassFile.FieldType.int)) (rmD 3) (PreM [.ref (X), .int (x), .int (y)] g A M0) (PosI (fun r M1 => (∃ t, r = oUntil (cpyC t now (onN now)) x y) ∧ RXS g A M0 M1 X (now, hs, k, sl, sv, f, L)) g A) 0 0 A := by
  refine mk_Met (own := RX7) rfl rfl (by decide) (Nat.le_of_ble_eq_true rfl) ?_
  intro p e s m below meth c ls aa Q haa hQ hx hb hr hlk hml hown hts hK hM hS hl hnm
  obtain ⟨M, hMM⟩ : ∃ M, M = M0 := ⟨_, rfl⟩
  rw [← hMM] at hM hR
  have ht : ∀ w ∈ lw_good, w.before _ s = true := fun w h => hts w (List.mem_cons_of_mem _ h)
  have hl : lv_has ls 5 [(0, .ref (X)), (1, .int (x)), (2, .int (y))] := hl
  obtain ⟨π, hX⟩ := hR
  have hX : RX g A M0 M X π now hs k sl sv f L := ⟨hX.1, by rw [hMM]; exact FrX.rf⟩
  obtain ⟨⟨n, hn20, hn⟩, hk6, hhs, hsl, hL, hch⟩ := id hI
  have hN : onN now = n := onN_eq hn hn20
  obtain ⟨πt, t, hT⟩ := hX.tri
  refine lv_aload_n hx hb dX7_untilRound_0 rfl (lv_at hl 0 rfl) ?_
  refine m_get (ci := 7) (C := RX7) (T := TX7) (N := 7) hx hb ht ui_X7 hown hK hM hX.AX hX.obj rfl 1 (by decide) (ht _ uw_276) rfl dX7_untilRound_1 ?_
  refine lv_aload_n hx hb dX7_untilRound_4 rfl (lv_at hl 0 rfl) ?_
  refine m_get (ci := 7) (C := RX7) (T := TX7) (N := 7) hx hb ht ui_X7 hown hK hM hX.AX hX.obj rfl 0 (by decide) (ht _ uw_275) rfl dX7_untilRound_5 ?_
  refine m_callV (As := [.ref (X + 1)]) (rest := []) ⟨hx, hb, hml, hown, ht⟩ (k_X6_copyFrom l g A M (X + 36) πt t (X + 1) π now n hT hX.nowV (by omega) hn hn20) (cwV 1 ht (gU uw_524 uw_313 uw_314 uw_35 uw_315) rfl rfl rfl (by decide +kernel) ⟨by decide, by decide⟩) hK hM hS (m_recv hK hM hT.AW hT.W rfl) rfl hl.1 rfl (Nat.le_of_ble_eq_true rfl) dX7_untilRound_8 ⟨by decide, by decide⟩ (fun M H locs hp hM hS => ?_)
  obtain ⟨hV9, hF9⟩ := hp
  have hX := hX.setT hV9 hF9
  have hT := hV9
  have hnT : (cpyC t now n).1 3 = nI n := cpyC_3 hn
  refine lv_aload_n hx hb dX7_untilRound_11 rfl (lv_at hl 0 rfl) ?_
  refine m_get (ci := 7) (C := RX7) (T := TX7) (N := 7) hx hb ht ui_X7 hown hK hM hX.AX hX.obj rfl 1 (by decide) (ht _ uw_276) rfl dX7_untilRound_12 ?_
  refine lv_iload_n hx hb dX7_untilRound_15 rfl (lv_at hl 1 rfl) ?_
  rcases gxn_cases (n := 6) (by decide) x with ⟨e1, h1⟩ | ⟨i, hi, ex, e1⟩
  · refine m_callRQ (val := none) (w := .null) (rfl) (As := [.int (x)]) (rest := []) ⟨hx, hb, hml, hown, ht⟩ (k_X6_gaugeAt l g A M (X + 36) πt (cpyC t now n) (x) none hT e1) (cwV 1 ht (gU uw_345 uw_337 uw_338 uw_35 uw_339) rfl rfl rfl (by decide +kernel) ⟨by decide, by decide⟩) hK hM hS (m_recv hK hM hT.AW hT.W rfl) rfl hl.1 rfl (Nat.le_of_ble_eq_true rfl) dX7_untilRound_16 ⟨by decide, by decide⟩ (fun H locs hM hS => ?_)
    refine lv_astore_nN (lv' := [(3, .null), (0, .ref (X)), (1, .int (x)), (2, .int (y))]) hx hb dX7_untilRound_19 rfl hl (by decide) rfl (fun ls hl => ?_)
    refine lv_aload_nN hx hb dX7_untilRound_20 rfl (lv_at hl 0 rfl) ?_
    refine lv_ifnonnullN hx hb dX7_untilRound_21 ?_
    refine lv_ldc (v := (-1000001)) hx hb hown (ht _ uw_346) dX7_untilRound_24 ?_
    subst hQ
    exact m_zret hx hb hr (rfl) hlk hK hM hS dX7_untilRound_26 (⟨⟨t, by rw [hN]; unfold oUntil; rw [e1]⟩, π, hX⟩)
  · refine m_callRQ (val := some (X + 36 + 3 + 2 * i)) (w := .ref (X + 36 + 3 + 2 * i)) (rfl) (As := [.int (x)]) (rest := []) ⟨hx, hb, hml, hown, ht⟩ (k_X6_gaugeAt l g A M (X + 36) πt (cpyC t now n) (x) (some i) hT e1) (cwV 1 ht (gU uw_345 uw_337 uw_338 uw_35 uw_339) rfl rfl rfl (by decide +kernel) ⟨by decide, by decide⟩) hK hM hS (m_recv hK hM hT.AW hT.W rfl) rfl hl.1 rfl (Nat.le_of_ble_eq_true rfl) dX7_untilRound_16 ⟨by decide, by decide⟩ (fun H locs hM hS => ?_)
    refine lv_astore_n (lv' := [(3, .ref (X + 36 + 3 + 2 * i)), (0, .ref (X)), (1, .int (x)), (2, .int (y))]) hx hb dX7_untilRound_19 rfl hl (by decide) rfl (fun ls hl => ?_)
    refine lv_aload_n hx hb dX7_untilRound_20 rfl (lv_at hl 0 rfl) ?_
    refine lv_ifnonnull (tgt := 27) hx hb dX7_untilRound_21 (by decide) ?_
    refine lv_iload_n hx hb dX7_untilRound_27 rfl (lv_at hl 3 rfl) ?_
    refine lv_iconst (v := 0) hx hb dX7_untilRound_28 (by first | rfl | decide) ?_
    refine lv_bipush (v := 99) hx hb dX7_untilRound_29 (by first | rfl | decide) ?_
    refine m_callRSI (val := winC (y) (0) (99)) (As := [.int (y), .int (0), .int (99)]) (rest := []) ⟨hx, hb, hml, hown, ht⟩ (k_X7_within l g A M (y) (0) (99)) (cwS 3 ht (gUS uw_301 uw_302 uw_34 uw_303) rfl rfl rfl (by decide +kernel) ⟨by decide, by decide⟩) hK hM hS rfl hl.1 rfl (Nat.le_of_ble_eq_true rfl) dX7_untilRound_31 ⟨by decide, by decide⟩ (fun H locs hM hS => ?_)
    refine lv_if_ne (tgt := 40) hx hb dX7_untilRound_34 (by decide) (fun c_34 => ?_) (fun c_34 => ?_)
    · obtain ⟨w0, hw0⟩ : ∃ w0, w0 = untL i y 501 0 (cpyC t now n) := ⟨_, rfl⟩
      refine lv_iconst (v := 0) hx hb dX7_untilRound_40 (by first | rfl | decide) ?_
      refine lv_istore (lv' := [(4, .int (0)), (3, .ref (X + 36 + 3 + 2 * i)), (0, .ref (X)), (1, .int (x)), (2, .int (y))]) hx hb dX7_untilRound_41 hl (by decide) rfl (fun ls hl => ?_)
      have loop_43 : ∀ (z_43 : Nat) (o : Nat) (v9 : VV) (M : MM) (H : Heap) (locs : List Loc) (ls : Array Slot), 501 - o < z_43 → o ≤ 501 → untL i y (501 - o) o v9 = w0 → HD g A M H → RX g A M0 M X π now hs k sl sv f L → RepV g A M (X + 36) πt v9 → va_S A s.heap H locs → lv_has ls 5 [(4, .int (nI o)), (3, .ref (X + 36 + 3 + 2 * i)), (0, .ref (X)), (1, .int (x)), (2, .int (y))] → W p l e (rmD 3) s m aa below meth c H locs 0 0 Q (F0 m 43 ls []) := by
        intro z_43
        induction z_43 with
        | zero => intro o v9 M H locs ls hz ho hw; exact absurd hz (Nat.not_lt_zero _)
        | succ z_43 ih_43 =>
        intro o v9 M H locs ls hz ho hw hM hX hT hS hl
        refine lv_iload hx hb dX7_untilRound_43 (lv_at hl 0 rfl) ?_
        refine lv_sipush (v := 500) hx hb dX7_untilRound_45 (by first | rfl | decide) ?_
        refine lv_icmp_gt (tgt := 80) hx hb dX7_untilRound_48 (by decide) (fun c_48 => ?_) (fun c_48 => ?_)
        · refine lv_ldc (v := (-1000006)) hx hb hown (ht _ uw_471) dX7_untilRound_80 ?_
          subst hQ
          exact m_zret hx hb hr (rfl) hlk hK hM hS dX7_untilRound_82 (⟨⟨t, by rw [hN, unt_e e1 c_34, ← hw0, ← hw]; exact (unt_0 (nI_nlt_of (by decide) (by omega) c_48)).symm⟩, π, hX⟩)
        · have ho5 : o ≤ 500 := nI_le_of (by decide) (by omega) (Int32.not_lt.mp c_48)
          refine lv_aload_n hx hb dX7_untilRound_51 rfl (lv_at hl 1 rfl) ?_
          refine m_callRI (val := v9.2.1 i 5 - v9.2.1 i 10) (As := []) (rest := []) ⟨hx, hb, hml, hown, ht⟩ (k_X0_untold l g A M (X + 36) πt v9 i hT hi) (cwV 0 ht (gU uw_525 uw_526 uw_527 uw_36 uw_528) rfl rfl rfl (by decide +kernel) ⟨by decide, by decide⟩) hK hM hS (m_recv hK hM (hT.AG hi) (hT.G hi) rfl) rfl hl.1 rfl (Nat.le_of_ble_eq_true rfl) dX7_untilRound_52 ⟨by decide, by decide⟩ (fun H locs hM hS => ?_)
          refine lv_aload_n hx hb dX7_untilRound_55 rfl (lv_at hl 2 rfl) ?_
          refine m_get (ci := 7) (C := RX7) (T := TX7) (N := 7) hx hb ht ui_X7 hown hK hM hX.AX hX.obj rfl 1 (by decide) (ht _ uw_276) rfl dX7_untilRound_56 ?_
          refine rv_getW hx hb ht ui_X6 hown hK hM hT 0 (by decide) (ht _ uw_189) dX7_untilRound_59 ?_
          refine lv_icmp_lt (tgt := 68) hx hb dX7_untilRound_62 (by decide) (fun c_62 => ?_) (fun c_62 => ?_)
          · refine lv_aload_n hx hb dX7_untilRound_68 rfl (lv_at hl 1 rfl) ?_
            refine lv_iload_n hx hb dX7_untilRound_69 rfl (lv_at hl 4 rfl) ?_
            refine m_callI (As := [.int (y)]) (rest := []) ⟨hx, hb, hml, hown, ht⟩ (k_X0_catchRain l g A M (X + 36) πt v9 i y hT hi) (cwV 1 ht (gU uw_529 uw_361 uw_362 uw_36 uw_363) rfl rfl rfl (by decide +kernel) ⟨by decide, by decide⟩) hK hM hS (m_recv hK hM (hT.AG hi) (hT.G hi) rfl) rfl hl.1 rfl (Nat.le_of_ble_eq_true rfl) dX7_untilRound_70 ⟨by decide, by decide⟩ (fun r9 M H locs hp hM hS => ?_)
            obtain ⟨-, hV9, hF9⟩ := hp
            have hX := hX.setT hV9 hF9
            have hT := hV9
            refine lv_pop hx hb dX7_untilRound_73 rfl ?_
            refine lv_iinc (v := nI (o + 1)) (lv' := [(4, .int (nI (o + 1))), (3, .ref (X + 36 + 3 + 2 * i)), (0, .ref (X)), (1, .int (x)), (2, .int (y))]) hx hb dX7_untilRound_74 hl (k := 0) rfl (nI_1 _) (by decide) rfl (fun ls hl => ?_)
            refine lv_goto (tgt := 43) hx hb dX7_untilRound_77 (by decide) ?_
            exact ih_43 (o + 1) (catC v9 i y) _ _ _ _ (by omega) (by omega) (by rw [← hw]; exact unt_2 ho5 c_62) hM hX hT hS (lv_sub hl [0, 1, 2, 3, 4] rfl)
          · refine lv_iload hx hb dX7_untilRound_65 (lv_at hl 0 rfl) ?_
            subst hQ
            exact m_zret hx hb hr (rfl) hlk hK hM hS dX7_untilRound_67 (⟨⟨t, by rw [hN, unt_e e1 c_34, ← hw0, ← hw]; exact (unt_1 ho5 (Int32.not_lt.mp c_62)).symm⟩, π, hX⟩)
      exact loop_43 _ 0 (cpyC t now n) _ _ _ _ (Nat.lt_succ_self _) (by omega) hw0.symm hM hX hT hS (lv_sub hl [0, 1, 2, 3, 4] rfl)
    · refine lv_ldc (v := (-1000002)) hx hb hown (ht _ uw_340) dX7_untilRound_37 ?_
      subst hQ
      exact m_zret hx hb hr (rfl) hlk hK hM hS dX7_untilRound_39 (⟨⟨t, by rw [hN]; unfold oUntil; rw [e1]; exact (if_pos c_34).symm⟩, π, hX⟩)

set_option maxHeartbeats 4000000 in
set_option maxRecDepth 100000 in
/-- ifSent -/
theorem k_X7_ifSent (l : Launch) (g : GG) (A : Nat → Prop) (M0 : MM) (X : Nat) (now : VV) (hs : Nat → VV) (k : Nat) (sl : Nat → VV) (sv f : Nat → Int32) (L : Nat) (hR : RXS g A M0 M0 X (now, hs, k, sl, sv, f, L)) (hI : CI (now, hs, k, sl, sv, f, L)) (x : Int32)  : Met l yX7_ifSent (Uw yX7_ifSent cX7_ifSent 3 (Option.some ClassFile.FieldType.int)) (rmD 4) (PreM [.ref (X), .int (x)] g A M0) (PosI (fun r M1 => (∃ t, r = oIfSent (cpyC t now (onN now)) x) ∧ RXS g A M0 M1 X (now, hs, k, sl, sv, f, L)) g A) 0 0 A := by
  refine mk_Met (own := RX7) rfl rfl (by decide) (Nat.le_of_ble_eq_true rfl) ?_
  intro p e s m below meth c ls aa Q haa hQ hx hb hr hlk hml hown hts hK hM hS hl hnm
  obtain ⟨M, hMM⟩ : ∃ M, M = M0 := ⟨_, rfl⟩
  rw [← hMM] at hM hR
  have ht : ∀ w ∈ lw_good, w.before _ s = true := fun w h => hts w (List.mem_cons_of_mem _ h)
  have hl : lv_has ls 3 [(0, .ref (X)), (1, .int (x))] := hl
  obtain ⟨π, hX⟩ := hR
  have hX : RX g A M0 M X π now hs k sl sv f L := ⟨hX.1, by rw [hMM]; exact FrX.rf⟩
  obtain ⟨⟨n, hn20, hn⟩, hk6, hhs, hsl, hL, hch⟩ := id hI
  have hN : onN now = n := onN_eq hn hn20
  obtain ⟨πt, t, hT⟩ := hX.tri
  refine lv_aload_n hx hb dX7_ifSent_0 rfl (lv_at hl 0 rfl) ?_
  refine m_get (ci := 7) (C := RX7) (T := TX7) (N := 7) hx hb ht ui_X7 hown hK hM hX.AX hX.obj rfl 1 (by decide) (ht _ uw_276) rfl dX7_ifSent_1 ?_
  refine lv_aload_n hx hb dX7_ifSent_4 rfl (lv_at hl 0 rfl) ?_
  refine m_get (ci := 7) (C := RX7) (T := TX7) (N := 7) hx hb ht ui_X7 hown hK hM hX.AX hX.obj rfl 0 (by decide) (ht _ uw_275) rfl dX7_ifSent_5 ?_
  refine m_callV (As := [.ref (X + 1)]) (rest := []) ⟨hx, hb, hml, hown, ht⟩ (k_X6_copyFrom l g A M (X + 36) πt t (X + 1) π now n hT hX.nowV (by omega) hn hn20) (cwV 1 ht (gU uw_524 uw_313 uw_314 uw_35 uw_315) rfl rfl rfl (by decide +kernel) ⟨by decide, by decide⟩) hK hM hS (m_recv hK hM hT.AW hT.W rfl) rfl hl.1 rfl (Nat.le_of_ble_eq_true rfl) dX7_ifSent_8 ⟨by decide, by decide⟩ (fun M H locs hp hM hS => ?_)
  obtain ⟨hV9, hF9⟩ := hp
  have hX := hX.setT hV9 hF9
  have hT := hV9
  have hnT : (cpyC t now n).1 3 = nI n := cpyC_3 hn
  refine lv_aload_n hx hb dX7_ifSent_11 rfl (lv_at hl 0 rfl) ?_
  refine m_get (ci := 7) (C := RX7) (T := TX7) (N := 7) hx hb ht ui_X7 hown hK hM hX.AX hX.obj rfl 1 (by decide) (ht _ uw_276) rfl dX7_ifSent_12 ?_
  refine lv_iload_n hx hb dX7_ifSent_15 rfl (lv_at hl 1 rfl) ?_
  rcases gxn_cases (n := 6) (by decide) x with ⟨e1, h1⟩ | ⟨i, hi, ex, e1⟩
  · refine m_callRQ (val := none) (w := .null) (rfl) (As := [.int (x)]) (rest := []) ⟨hx, hb, hml, hown, ht⟩ (k_X6_gaugeAt l g A M (X + 36) πt (cpyC t now n) (x) none hT e1) (cwV 1 ht (gU uw_345 uw_337 uw_338 uw_35 uw_339) rfl rfl rfl (by decide +kernel) ⟨by decide, by decide⟩) hK hM hS (m_recv hK hM hT.AW hT.W rfl) rfl hl.1 rfl (Nat.le_of_ble_eq_true rfl) dX7_ifSent_16 ⟨by decide, by decide⟩ (fun H locs hM hS => ?_)
    refine lv_astore_nN (lv' := [(2, .null), (0, .ref (X)), (1, .int (x))]) hx hb dX7_ifSent_19 rfl hl (by decide) rfl (fun ls hl => ?_)
    refine lv_aload_nN hx hb dX7_ifSent_20 rfl (lv_at hl 0 rfl) ?_
    refine lv_ifnonnullN hx hb dX7_ifSent_21 ?_
    refine lv_ldc (v := (-1000001)) hx hb hown (ht _ uw_346) dX7_ifSent_24 ?_
    subst hQ
    exact m_zret hx hb hr (rfl) hlk hK hM hS dX7_ifSent_26 (⟨⟨t, by rw [hN]; unfold oIfSent; rw [e1]⟩, π, hX⟩)
  · refine m_callRQ (val := some (X + 36 + 3 + 2 * i)) (w := .ref (X + 36 + 3 + 2 * i)) (rfl) (As := [.int (x)]) (rest := []) ⟨hx, hb, hml, hown, ht⟩ (k_X6_gaugeAt l g A M (X + 36) πt (cpyC t now n) (x) (some i) hT e1) (cwV 1 ht (gU uw_345 uw_337 uw_338 uw_35 uw_339) rfl rfl rfl (by decide +kernel) ⟨by decide, by decide⟩) hK hM hS (m_recv hK hM hT.AW hT.W rfl) rfl hl.1 rfl (Nat.le_of_ble_eq_true rfl) dX7_ifSent_16 ⟨by decide, by decide⟩ (fun H locs hM hS => ?_)
    refine lv_astore_n (lv' := [(2, .ref (X + 36 + 3 + 2 * i)), (0, .ref (X)), (1, .int (x))]) hx hb dX7_ifSent_19 rfl hl (by decide) rfl (fun ls hl => ?_)
    refine lv_aload_n hx hb dX7_ifSent_20 rfl (lv_at hl 0 rfl) ?_
    refine lv_ifnonnull (tgt := 27) hx hb dX7_ifSent_21 (by decide) ?_
    refine lv_aload_n hx hb dX7_ifSent_27 rfl (lv_at hl 1 rfl) ?_
    refine m_get (ci := 7) (C := RX7) (T := TX7) (N := 7) hx hb ht ui_X7 hown hK hM hX.AX hX.obj rfl 1 (by decide) (ht _ uw_276) rfl dX7_ifSent_28 ?_
    refine lv_iconst (v := 0) hx hb dX7_ifSent_31 (by first | rfl | decide) ?_
    refine rv_putW hx hb ht ui_X6 hown hK hM hS hT FrV.rf 3 (by decide) (ht _ uw_195) dX7_ifSent_32 (fun M H locs hM hV9 hF9 hS => ?_)
    have hX := hX.setT hV9 hF9
    have hT := hV9
    refine lv_aload_n hx hb dX7_ifSent_35 rfl (lv_at hl 0 rfl) ?_
    refine lv_iconst (v := 0) hx hb dX7_ifSent_36 (by first | rfl | decide) ?_
    refine rv_putG hx hb ht ui_X0 hown hK hM hS hT FrV.rf hi 3 (by decide) (ht _ uw_125) dX7_ifSent_37 (fun M H locs hM hV9 hF9 hS => ?_)
    have hX := hX.setT hV9 hF9
    have hT := hV9
    refine lv_aload_n hx hb dX7_ifSent_40 rfl (lv_at hl 1 rfl) ?_
    refine m_get (ci := 7) (C := RX7) (T := TX7) (N := 7) hx hb ht ui_X7 hown hK hM hX.AX hX.obj rfl 1 (by decide) (ht _ uw_276) rfl dX7_ifSent_41 ?_
    refine lv_iload_n hx hb dX7_ifSent_44 rfl (lv_at hl 2 rfl) ?_
    refine m_callI (As := [.int (x)]) (rest := []) ⟨hx, hb, hml, hown, ht⟩ ((by have z := k_X6_sendRunner l g A M (X + 36) πt (vG (vW (cpyC t now n) 3 0) i 3 0) i hT 0 rfl (by omega) hi; rw [← ex] at z; exact z)) (cwV 1 ht (gU uw_404 uw_405 uw_406 uw_35 uw_407) rfl rfl rfl (by decide +kernel) ⟨by decide, by decide⟩) hK hM hS (m_recv hK hM hT.AW hT.W rfl) rfl hl.1 rfl (Nat.le_of_ble_eq_true rfl) dX7_ifSent_45 ⟨by decide, by decide⟩ (fun r9 M H locs hp hM hS => ?_)
    obtain ⟨-, ⟨πt, hV9⟩, hF9⟩ := hp.1 (by decide)
    have hX := hX.setT hV9 hF9
    have hT := hV9
    refine lv_pop hx hb dX7_ifSent_48 rfl ?_
    refine lv_aload_n hx hb dX7_ifSent_49 rfl (lv_at hl 0 rfl) ?_
    refine m_callRI (val := (senC (vG (vW (cpyC t now n) 3 0) i 3 0) i 0).2.1 i 5 - (senC (vG (vW (cpyC t now n) 3 0) i 3 0) i 0).2.1 i 8) (As := []) (rest := []) ⟨hx, hb, hml, hown, ht⟩ (k_X0_gap l g A M (X + 36) πt (senC (vG (vW (cpyC t now n) 3 0) i 3 0) i 0) i hT hi) (cwV 0 ht (gU uw_494 uw_495 uw_496 uw_36 uw_497) rfl rfl rfl (by decide +kernel) ⟨by decide, by decide⟩) hK hM hS (m_recv hK hM (hT.AG hi) (hT.G hi) rfl) rfl hl.1 rfl (Nat.le_of_ble_eq_true rfl) dX7_ifSent_50 ⟨by decide, by decide⟩ (fun H locs hM hS => ?_)
    subst hQ
    exact m_zret hx hb hr (rfl) hlk hK hM hS dX7_ifSent_53 (⟨⟨t, by rw [hN]; unfold oIfSent; rw [e1]⟩, π, hX⟩)

set_option maxHeartbeats 4000000 in
set_option maxRecDepth 100000 in
/-- ifAllCome -/
theorem k_X7_ifAllCome (l : Launch) (g : GG) (A : Nat → Prop) (M0 : MM) (X : Nat) (now : VV) (hs : Nat → VV) (k : Nat) (sl : Nat → VV) (sv f : Nat → Int32) (L : Nat) (hR : RXS g A M0 M0 X (now, hs, k, sl, sv, f, L)) (hI : CI (now, hs, k, sl, sv, f, L)) (x : Int32)  : Met l yX7_ifAllCome (Uw yX7_ifAllCome cX7_ifAllCome 3 (Option.some ClassFile.FieldType.int)) (rmD 5) (PreM [.ref (X), .int (x)] g A M0) (PosI (fun r M1 => (∃ t, r = oIfAll (cpyC t now (onN now)) (onN now) x) ∧ RXS g A M0 M1 X (now, hs, k, sl, sv, f, L)) g A) 0 0 A := by
  refine mk_Met (own := RX7) rfl rfl (by decide) (Nat.le_of_ble_eq_true rfl) ?_
  intro p e s m below meth c ls aa Q haa hQ hx hb hr hlk hml hown hts hK hM hS hl hnm
  obtain ⟨M, hMM⟩ : ∃ M, M = M0 := ⟨_, rfl⟩
  rw [← hMM] at hM hR
  have ht : ∀ w ∈ lw_good, w.before _ s = true := fun w h => hts w (List.mem_cons_of_mem _ h)
  have hl : lv_has ls 3 [(0, .ref (X)), (1, .int (x))] := hl
  obtain ⟨π, hX⟩ := hR
  have hX : RX g A M0 M X π now hs k sl sv f L := ⟨hX.1, by rw [hMM]; exact FrX.rf⟩
  obtain ⟨⟨n, hn20, hn⟩, hk6, hhs, hsl, hL, hch⟩ := id hI
  have hN : onN now = n := onN_eq hn hn20
  obtain ⟨πt, t, hT⟩ := hX.tri
  refine lv_aload_n hx hb dX7_ifAllCome_0 rfl (lv_at hl 0 rfl) ?_
  refine m_get (ci := 7) (C := RX7) (T := TX7) (N := 7) hx hb ht ui_X7 hown hK hM hX.AX hX.obj rfl 1 (by decide) (ht _ uw_276) rfl dX7_ifAllCome_1 ?_
  refine lv_aload_n hx hb dX7_ifAllCome_4 rfl (lv_at hl 0 rfl) ?_
  refine m_get (ci := 7) (C := RX7) (T := TX7) (N := 7) hx hb ht ui_X7 hown hK hM hX.AX hX.obj rfl 0 (by decide) (ht _ uw_275) rfl dX7_ifAllCome_5 ?_
  refine m_callV (As := [.ref (X + 1)]) (rest := []) ⟨hx, hb, hml, hown, ht⟩ (k_X6_copyFrom l g A M (X + 36) πt t (X + 1) π now n hT hX.nowV (by omega) hn hn20) (cwV 1 ht (gU uw_524 uw_313 uw_314 uw_35 uw_315) rfl rfl rfl (by decide +kernel) ⟨by decide, by decide⟩) hK hM hS (m_recv hK hM hT.AW hT.W rfl) rfl hl.1 rfl (Nat.le_of_ble_eq_true rfl) dX7_ifAllCome_8 ⟨by decide, by decide⟩ (fun M H locs hp hM hS => ?_)
  obtain ⟨hV9, hF9⟩ := hp
  have hX := hX.setT hV9 hF9
  have hT := hV9
  have hnT : (cpyC t now n).1 3 = nI n := cpyC_3 hn
  refine lv_aload_n hx hb dX7_ifAllCome_11 rfl (lv_at hl 0 rfl) ?_
  refine m_get (ci := 7) (C := RX7) (T := TX7) (N := 7) hx hb ht ui_X7 hown hK hM hX.AX hX.obj rfl 1 (by decide) (ht _ uw_276) rfl dX7_ifAllCome_12 ?_
  refine lv_iload_n hx hb dX7_ifAllCome_15 rfl (lv_at hl 1 rfl) ?_
  rcases gxn_cases (n := 6) (by decide) x with ⟨e1, h1⟩ | ⟨i, hi, ex, e1⟩
  · refine m_callRQ (val := none) (w := .null) (rfl) (As := [.int (x)]) (rest := []) ⟨hx, hb, hml, hown, ht⟩ (k_X6_gaugeAt l g A M (X + 36) πt (cpyC t now n) (x) none hT e1) (cwV 1 ht (gU uw_345 uw_337 uw_338 uw_35 uw_339) rfl rfl rfl (by decide +kernel) ⟨by decide, by decide⟩) hK hM hS (m_recv hK hM hT.AW hT.W rfl) rfl hl.1 rfl (Nat.le_of_ble_eq_true rfl) dX7_ifAllCome_16 ⟨by decide, by decide⟩ (fun H locs hM hS => ?_)
    refine lv_astore_nN (lv' := [(2, .null), (0, .ref (X)), (1, .int (x))]) hx hb dX7_ifAllCome_19 rfl hl (by decide) rfl (fun ls hl => ?_)
    refine lv_aload_nN hx hb dX7_ifAllCome_20 rfl (lv_at hl 0 rfl) ?_
    refine lv_ifnonnullN hx hb dX7_ifAllCome_21 ?_
    refine lv_ldc (v := (-1000001)) hx hb hown (ht _ uw_346) dX7_ifAllCome_24 ?_
    subst hQ
    exact m_zret hx hb hr (rfl) hlk hK hM hS dX7_ifAllCome_26 (⟨⟨t, by rw [hN]; unfold oIfAll; rw [e1]⟩, π, hX⟩)
  · refine m_callRQ (val := some (X + 36 + 3 + 2 * i)) (w := .ref (X + 36 + 3 + 2 * i)) (rfl) (As := [.int (x)]) (rest := []) ⟨hx, hb, hml, hown, ht⟩ (k_X6_gaugeAt l g A M (X + 36) πt (cpyC t now n) (x) (some i) hT e1) (cwV 1 ht (gU uw_345 uw_337 uw_338 uw_35 uw_339) rfl rfl rfl (by decide +kernel) ⟨by decide, by decide⟩) hK hM hS (m_recv hK hM hT.AW hT.W rfl) rfl hl.1 rfl (Nat.le_of_ble_eq_true rfl) dX7_ifAllCome_16 ⟨by decide, by decide⟩ (fun H locs hM hS => ?_)
    refine lv_astore_n (lv' := [(2, .ref (X + 36 + 3 + 2 * i)), (0, .ref (X)), (1, .int (x))]) hx hb dX7_ifAllCome_19 rfl hl (by decide) rfl (fun ls hl => ?_)
    refine lv_aload_n hx hb dX7_ifAllCome_20 rfl (lv_at hl 0 rfl) ?_
    refine lv_ifnonnull (tgt := 27) hx hb dX7_ifAllCome_21 (by decide) ?_
    refine lv_aload_n hx hb dX7_ifAllCome_27 rfl (lv_at hl 1 rfl) ?_
    refine m_get (ci := 7) (C := RX7) (T := TX7) (N := 7) hx hb ht ui_X7 hown hK hM hX.AX hX.obj rfl 1 (by decide) (ht _ uw_276) rfl dX7_ifAllCome_28 ?_
    refine lv_iconst (v := 0) hx hb dX7_ifAllCome_31 (by first | rfl | decide) ?_
    refine lv_aload_n hx hb dX7_ifAllCome_32 rfl (lv_at hl 1 rfl) ?_
    refine m_get (ci := 7) (C := RX7) (T := TX7) (N := 7) hx hb ht ui_X7 hown hK hM hX.AX hX.obj rfl 1 (by decide) (ht _ uw_276) rfl dX7_ifAllCome_33 ?_
    refine m_callRI (val := lonC (cpyC t now n) n) (As := []) (rest := [.int (0), .ref (X + 36)]) ⟨hx, hb, hml, hown, ht⟩ (k_X6_longestWay l g A M (X + 36) πt (cpyC t now n) hT n hnT hn20) (cwV 0 ht (gU uw_538 uw_539 uw_540 uw_35 uw_541) rfl rfl rfl (by decide +kernel) ⟨by decide, by decide⟩) hK hM hS (m_recv hK hM hT.AW hT.W rfl) rfl hl.1 rfl (Nat.le_of_ble_eq_true rfl) dX7_ifAllCome_36 ⟨by decide, by decide⟩ (fun H locs hM hS => ?_)
    obtain ⟨q, hq, eq⟩ := nI_of (Int32.not_lt.mpr (lonC_0 (cpyC t now n) n))
    refine m_callI (As := [.int (0), .int (lonC (cpyC t now n) n)]) (rest := []) ⟨hx, hb, hml, hown, ht⟩ ((by have z := k_X6_passHours l g A M (X + 36) πt (cpyC t now n) 0 q hT ⟨n, hn20, hnT⟩ hq; rw [← eq] at z; exact z)) (cwV 2 ht (gU uw_356 uw_357 uw_358 uw_35 uw_359) rfl rfl rfl (by decide +kernel) ⟨by decide, by decide⟩) hK hM hS (m_recv hK hM hT.AW hT.W rfl) rfl hl.1 rfl (Nat.le_of_ble_eq_true rfl) dX7_ifAllCome_39 ⟨by decide, by decide⟩ (fun r9 M H locs hp hM hS => ?_)
    obtain ⟨-, ⟨πt, hV9⟩, hF9⟩ := hp
    have hX := hX.setT hV9 hF9
    have hT := hV9
    refine lv_pop hx hb dX7_ifAllCome_42 rfl ?_
    refine lv_aload_n hx hb dX7_ifAllCome_43 rfl (lv_at hl 0 rfl) ?_
    refine m_callRI (val := (pasC 0 (cpyC t now n) q).2.1 i 5 - (pasC 0 (cpyC t now n) q).2.1 i 8) (As := []) (rest := []) ⟨hx, hb, hml, hown, ht⟩ (k_X0_gap l g A M (X + 36) πt (pasC 0 (cpyC t now n) q) i hT hi) (cwV 0 ht (gU uw_494 uw_495 uw_496 uw_36 uw_497) rfl rfl rfl (by decide +kernel) ⟨by decide, by decide⟩) hK hM hS (m_recv hK hM (hT.AG hi) (hT.G hi) rfl) rfl hl.1 rfl (Nat.le_of_ble_eq_true rfl) dX7_ifAllCome_44 ⟨by decide, by decide⟩ (fun H locs hM hS => ?_)
    subst hQ
    exact m_zret hx hb hr (rfl) hlk hK hM hS dX7_ifAllCome_47 (⟨⟨t, by rw [hN]; unfold oIfAll; rw [e1, eq, nI_clamp hq]⟩, π, hX⟩)

set_option maxHeartbeats 4000000 in
set_option maxRecDepth 100000 in
/-- mostUntold -/
theorem k_X7_mostUntold (l : Launch) (g : GG) (A : Nat → Prop) (M0 : MM) (X : Nat) (now : VV) (hs : Nat → VV) (k : Nat) (sl : Nat → VV) (sv f : Nat → Int32) (L : Nat) (hR : RXS g A M0 M0 X (now, hs, k, sl, sv, f, L)) (hI : CI (now, hs, k, sl, sv, f, L))  : Met l yX7_mostUntold (Uw yX7_mostUntold cX7_mostUntold 5 (Option.some ClassFile.FieldType.int)) (rmD 1) (PreM [.ref (X)] g A M0) (PosI (fun r M1 => r = mosL now 6 ∧ M1 = M0) g A) 0 0 A := by
  refine mk_Met (own := RX7) rfl rfl (by decide) (Nat.le_of_ble_eq_true rfl) ?_
  intro p e s m below meth c ls aa Q haa hQ hx hb hr hlk hml hown hts hK hM hS hl hnm
  obtain ⟨M, hMM⟩ : ∃ M, M = M0 := ⟨_, rfl⟩
  rw [← hMM] at hM hR
  have ht : ∀ w ∈ lw_good, w.before _ s = true := fun w h => hts w (List.mem_cons_of_mem _ h)
  have hl : lv_has ls 5 [(0, .ref (X))] := hl
  obtain ⟨π, hX⟩ := hR
  have hX : RX g A M0 M X π now hs k sl sv f L := ⟨hX.1, by rw [hMM]; exact FrX.rf⟩
  obtain ⟨⟨n, hn20, hn⟩, hk6, hhs, hsl, hL, hch⟩ := id hI
  have hN : onN now = n := onN_eq hn hn20
  refine lv_iconst (v := 0) hx hb dX7_mostUntold_0 (by first | rfl | decide) ?_
  refine lv_istore_n (lv' := [(1, .int (0)), (0, .ref (X))]) hx hb dX7_mostUntold_1 rfl hl (by decide) rfl (fun ls hl => ?_)
  refine lv_ldc (v := (-1000006)) hx hb hown (ht _ uw_471) dX7_mostUntold_2 ?_
  refine lv_istore_n (lv' := [(2, .int ((-1000006))), (1, .int (0)), (0, .ref (X))]) hx hb dX7_mostUntold_4 rfl hl (by decide) rfl (fun ls hl => ?_)
  refine lv_iconst (v := 0) hx hb dX7_mostUntold_5 (by first | rfl | decide) ?_
  refine lv_istore_n (lv' := [(3, .int (0)), (2, .int ((-1000006))), (1, .int (0)), (0, .ref (X))]) hx hb dX7_mostUntold_6 rfl hl (by decide) rfl (fun ls hl => ?_)
  have loop_7 : ∀ (z_7 : Nat) (i : Nat) (a : Int32) (b : Int32) (H : Heap) (locs : List Loc) (ls : Array Slot), 6 - i < z_7 → i ≤ 6 → (a, b) = mosP now i → HD g A M H → va_S A s.heap H locs → lv_has ls 5 [(3, .int (nI i)), (2, .int (b)), (1, .int (a)), (0, .ref (X))] → W p l e (rmD 1) s m aa below meth c H locs 0 0 Q (F0 m 7 ls []) := by
    intro z_7
    induction z_7 with
    | zero => intro i a b H locs ls hz hi ha; exact absurd hz (Nat.not_lt_zero _)
    | succ z_7 ih_7 =>
    intro i a b H locs ls hz hi ha hM  hS hl
    refine lv_iload_n hx hb dX7_mostUntold_7 rfl (lv_at hl 0 rfl) ?_
    refine lv_bipush (v := 6) hx hb dX7_mostUntold_8 (by first | rfl | decide) ?_
    refine lv_icmp_ge (tgt := 44) hx hb dX7_mostUntold_10 (by decide) (fun c_10 => ?_) (fun c_10 => ?_)
    · have hi6 : i = 6 := Nat.le_antisymm hi (nI_le_of (by omega) (by decide) c_10)
      subst hi6
      refine lv_iload_n hx hb dX7_mostUntold_44 rfl (lv_at hl 1 rfl) ?_
      subst hQ
      exact m_zret hx hb hr (rfl) hlk hK hM hS dX7_mostUntold_45 (⟨by unfold mosL; rw [← ha], hMM⟩)
    · have hi6 : i < 6 := nI_lt_of (by omega) (by decide) c_10
      refine lv_aload_n hx hb dX7_mostUntold_13 rfl (lv_at hl 3 rfl) ?_
      refine m_get (ci := 7) (C := RX7) (T := TX7) (N := 7) hx hb ht ui_X7 hown hK hM hX.AX hX.obj rfl 0 (by decide) (ht _ uw_275) rfl dX7_mostUntold_14 ?_
      refine rv_getga hx hb ht ui_X6 hown hK hM hX.nowV (ht _ uw_197) dX7_mostUntold_17 ?_
      refine lv_iload_n hx hb dX7_mostUntold_20 rfl (lv_at hl 0 rfl) ?_
      refine rv_aldG hx hb hK hM hX.nowV (hi6) dX7_mostUntold_21 ?_
      refine m_callRI (val := now.2.1 i 5 - now.2.1 i 10) (As := []) (rest := []) ⟨hx, hb, hml, hown, ht⟩ (k_X0_untold l g A M (X + 1) π now i hX.nowV hi6) (cwV 0 ht (gU uw_525 uw_526 uw_527 uw_36 uw_528) rfl rfl rfl (by decide +kernel) ⟨by decide, by decide⟩) hK hM hS (m_recv hK hM (hX.nowV.AG hi6) (hX.nowV.G hi6) rfl) rfl hl.1 rfl (Nat.le_of_ble_eq_true rfl) dX7_mostUntold_22 ⟨by decide, by decide⟩ (fun H locs hM hS => ?_)
      refine lv_istore (lv' := [(4, .int (now.2.1 i 5 - now.2.1 i 10)), (3, .int (nI i)), (2, .int (b)), (1, .int (a)), (0, .ref (X))]) hx hb dX7_mostUntold_25 hl (by decide) rfl (fun ls hl => ?_)
      refine lv_iload hx hb dX7_mostUntold_27 (lv_at hl 0 rfl) ?_
      refine lv_iload_n hx hb dX7_mostUntold_29 rfl (lv_at hl 3 rfl) ?_
      refine lv_icmp_le (tgt := 38) hx hb dX7_mostUntold_30 (by decide) (fun c_30 => ?_) (fun c_30 => ?_)
      · refine lv_iinc (v := nI (i + 1)) (lv' := [(3, .int (nI (i + 1))), (4, .int (now.2.1 i 5 - now.2.1 i 10)), (2, .int (b)), (1, .int (a)), (0, .ref (X))]) hx hb dX7_mostUntold_38 hl (k := 1) rfl (nI_1 _) (by decide) rfl (fun ls hl => ?_)
        refine lv_goto (tgt := 7) hx hb dX7_mostUntold_41 (by decide) ?_
        exact ih_7 (i + 1) a b _ _ _ (by omega) (by omega) (by exact mos_n ha c_30) hM hS (lv_sub hl [0, 2, 3, 4] rfl)
      · refine lv_iload hx hb dX7_mostUntold_33 (lv_at hl 0 rfl) ?_
        refine lv_istore_n (lv' := [(1, .int (now.2.1 i 5 - now.2.1 i 10)), (4, .int (now.2.1 i 5 - now.2.1 i 10)), (3, .int (nI i)), (2, .int (b)), (0, .ref (X))]) hx hb dX7_mostUntold_35 rfl hl (by decide) rfl (fun ls hl => ?_)
        refine lv_iload_n hx hb dX7_mostUntold_36 rfl (lv_at hl 2 rfl) ?_
        refine lv_istore_n (lv' := [(2, .int (nI i)), (1, .int (now.2.1 i 5 - now.2.1 i 10)), (4, .int (now.2.1 i 5 - now.2.1 i 10)), (3, .int (nI i)), (0, .ref (X))]) hx hb dX7_mostUntold_37 rfl hl (by decide) rfl (fun ls hl => ?_)
        refine lv_iinc (v := nI (i + 1)) (lv' := [(3, .int (nI (i + 1))), (2, .int (nI i)), (1, .int (now.2.1 i 5 - now.2.1 i 10)), (4, .int (now.2.1 i 5 - now.2.1 i 10)), (0, .ref (X))]) hx hb dX7_mostUntold_38 hl (k := 3) rfl (nI_1 _) (by decide) rfl (fun ls hl => ?_)
        refine lv_goto (tgt := 7) hx hb dX7_mostUntold_41 (by decide) ?_
        exact ih_7 (i + 1) (now.2.1 i 5 - now.2.1 i 10) (nI i) _ _ _ (by omega) (by omega) (by exact mos_y ha c_30) hM hS (lv_sub hl [0, 1, 2, 4] rfl)
  exact loop_7 _ 0 0 (-1000006) _ _ _ (Nat.lt_succ_self _) (by omega) rfl hM hS (lv_sub hl [0, 1, 2, 3] rfl)

set_option maxHeartbeats 4000000 in
set_option maxRecDepth 100000 in
/-- undo -/
theorem k_X7_undo (l : Launch) (g : GG) (A : Nat → Prop) (M0 : MM) (X : Nat) (now : VV) (hs : Nat → VV) (k : Nat) (sl : Nat → VV) (sv f : Nat → Int32) (L : Nat) (hR : RXS g A M0 M0 X (now, hs, k, sl, sv, f, L)) (hI : CI (now, hs, k, sl, sv, f, L))  : Met l yX7_undo (Uw yX7_undo cX7_undo 1 (Option.some ClassFile.FieldType.int)) (rmD 4) (PreM [.ref (X)] g A M0) (PosI (fun r M1 => r = (oUndo (now, hs, k, sl, sv, f, L)).1 ∧ RXS g A M0 M1 X (oUndo (now, hs, k, sl, sv, f, L)).2) g A) 0 0 A := by
  refine mk_Met (own := RX7) rfl rfl (by decide) (Nat.le_of_ble_eq_true rfl) ?_
  intro p e s m below meth c ls aa Q haa hQ hx hb hr hlk hml hown hts hK hM hS hl hnm
  obtain ⟨M, hMM⟩ : ∃ M, M = M0 := ⟨_, rfl⟩
  rw [← hMM] at hM hR
  have ht : ∀ w ∈ lw_good, w.before _ s = true := fun w h => hts w (List.mem_cons_of_mem _ h)
  have hl : lv_has ls 1 [(0, .ref (X))] := hl
  obtain ⟨π, hX⟩ := hR
  have hX : RX g A M0 M X π now hs k sl sv f L := ⟨hX.1, by rw [hMM]; exact FrX.rf⟩
  obtain ⟨⟨n, hn20, hn⟩, hk6, hhs, hsl, hL, hch⟩ := id hI
  have hN : onN now = n := onN_eq hn hn20
  by_cases hk0 : k = 0
  · subst hk0
    refine lv_aload_n hx hb dX7_undo_0 rfl (lv_at hl 0 rfl) ?_
    obtain ⟨ρ8, πs8, hH8⟩ := hX.his
    refine m_get (ci := 7) (C := RX7) (T := TX7) (N := 7) hx hb ht ui_X7 hown hK hM hX.AX hX.obj rfl 2 (by decide) (ht _ uw_277) rfl dX7_undo_1 ?_
    refine lv_aload_n hx hb dX7_undo_4 rfl (lv_at hl 0 rfl) ?_
    refine m_get (ci := 7) (C := RX7) (T := TX7) (N := 7) hx hb ht ui_X7 hown hK hM hX.AX hX.obj rfl 0 (by decide) (ht _ uw_275) rfl dX7_undo_5 ?_
    refine m_callI (As := [.ref (X + 1)]) (rest := []) ⟨hx, hb, hml, hown, ht⟩ (k_X1_takeBack_0 l g A M (X + 71) ρ8 πs8 hs (nI 0) hH8 (X + 1) rfl) (cwV 1 ht (gU uw_575 uw_576 uw_577 uw_39 uw_578) rfl rfl rfl (by decide +kernel) ⟨by decide, by decide⟩) hK hM hS (m_recv hK hM hH8.1 hH8.2.2.2.1 rfl) rfl hl.1 rfl (Nat.le_of_ble_eq_true rfl) dX7_undo_8 ⟨by decide, by decide⟩ (fun r9 M H locs hp hM hS => ?_)
    obtain ⟨e9, e8⟩ := hp
    subst e9
    rw [e8] at hM
    refine lv_if_eq (tgt := 24) hx hb dX7_undo_11 (by decide) (fun c_11 => ?_) (fun c_11 => absurd (rfl) c_11)
    refine lv_ldc (v := (-1000005)) hx hb hown (ht _ uw_579) dX7_undo_24 ?_
    subst hQ
    exact m_zret hx hb hr (rfl) hlk hK hM hS dX7_undo_26 (⟨rfl, π, hX⟩)
  · obtain ⟨k9, rfl⟩ : ∃ k9, k = k9 + 1 := ⟨k - 1, by omega⟩
    obtain ⟨hn9, hn29⟩ := (hhs k9 (by have z : k9 + 1 ≤ 6 := hk6; omega)).eq
    refine lv_aload_n hx hb dX7_undo_0 rfl (lv_at hl 0 rfl) ?_
    obtain ⟨ρ8, πs8, hH8⟩ := hX.his
    refine m_get (ci := 7) (C := RX7) (T := TX7) (N := 7) hx hb ht ui_X7 hown hK hM hX.AX hX.obj rfl 2 (by decide) (ht _ uw_277) rfl dX7_undo_1 ?_
    refine lv_aload_n hx hb dX7_undo_4 rfl (lv_at hl 0 rfl) ?_
    refine m_get (ci := 7) (C := RX7) (T := TX7) (N := 7) hx hb ht ui_X7 hown hK hM hX.AX hX.obj rfl 0 (by decide) (ht _ uw_275) rfl dX7_undo_5 ?_
    refine m_callI (As := [.ref (X + 1)]) (rest := []) ⟨hx, hb, hml, hown, ht⟩ (k_X1_takeBack l g A M (X + 71) ρ8 πs8 hs (nI (k9 + 1)) hH8 (X + 1) π now (onN (hs k9)) hX.nowV (by omega) k9 rfl hk6 hn9 hn29) (cwV 1 ht (gU uw_575 uw_576 uw_577 uw_39 uw_578) rfl rfl rfl (by decide +kernel) ⟨by decide, by decide⟩) hK hM hS (m_recv hK hM hH8.1 hH8.2.2.2.1 rfl) rfl hl.1 rfl (Nat.le_of_ble_eq_true rfl) dX7_undo_8 ⟨by decide, by decide⟩ (fun r9 M H locs hp hM hS => ?_)
    obtain ⟨e9, hH9, hV9, hF9⟩ := hp
    subst e9
    have hX := hX.setHN hH9 hV9 hF9
    refine lv_if_eq (tgt := 24) hx hb dX7_undo_11 (by decide) (fun c_11 => absurd c_11 (by decide)) (fun c_11 => ?_)
    refine lv_aload_n hx hb dX7_undo_14 rfl (lv_at hl 0 rfl) ?_
    refine m_get (ci := 7) (C := RX7) (T := TX7) (N := 7) hx hb ht ui_X7 hown hK hM hX.AX hX.obj rfl 2 (by decide) (ht _ uw_277) rfl dX7_undo_15 ?_
    obtain ⟨ρ9, πs9, hH9⟩ := hX.his
    refine rh_getSz hx hb ht ui_X1 hown hK hM hH9 (ht _ uw_223) dX7_undo_18 ?_
    refine lv_goto (tgt := 26) hx hb dX7_undo_21 (by decide) ?_
    subst hQ
    exact m_zret hx hb hr (rfl) hlk hK hM hS dX7_undo_26 (⟨rfl, π, hX⟩)

