theorem nar_ite {P : Prop} [Decidable P] : narrow .boolean (.int (if P then (1 : Int32) else 0)) = .int (if P then (1 : Int32) else 0) := by
  by_cases h : P
  · rw [if_pos h]; rfl
  · rw [if_neg h]; rfl
theorem rs_same {rs : Nat → Int32} {q : Nat} (h : rs 0 = nI q) : va_up rs 0 (nI q) = rs := by
  funext j
  unfold va_up
  by_cases hj : j = 0
  · rw [if_pos hj, hj, h]
  · rw [if_neg hj]
theorem rs_one {rs : Nat → Int32} {q : Nat} (h : rs 0 = nI q) : va_up rs 0 (nI (q + 1)) = va_up rs 0 (rs 0 + 1) := by rw [h, nI_1]
theorem rs_two {rs : Nat → Int32} {q : Nat} (h : rs 0 = nI q) : va_up rs 0 (nI (q + 2)) = va_up (va_up rs 0 (rs 0 + 1)) 0 (va_up rs 0 (rs 0 + 1) 0 + 1) := by
  rw [va_upup, va_up_self, h, nI_1, nI_1]
section
variable {g : GG} {A : Nat → Prop} {M0 M1 : MM} {a : Nat} {f : Nat → Int32} {len : Int32} {rs : Nat → Int32} {L q : Nat} {lo hi : Int32}
theorem rn_end0 {r : Int32} {q' : Nat} (e : rnC f L q lo hi = (r, q')) (hR : RepT g A M1 a f len (va_up rs 0 (nI q'))) (hF : FrT a M0 M1) : r = (rnC f L q lo hi).1 ∧ RepT g A M1 a f len (va_up rs 0 (nI (rnC f L q lo hi).2)) ∧ FrT a M0 M1 := by
  rw [e]
  exact ⟨rfl, hR, hF⟩
theorem rn_a (c : dgC f L q < lo) : rnC f L q lo hi = (-1, q) := if_pos (Or.inl c)
theorem rn_b (c : ¬ dgC f L q ≤ hi) : rnC f L q lo hi = (-1, q) := if_pos (Or.inr (Int32.not_le.mp c))
theorem rn_c (c1 : ¬ dgC f L q < lo) (c2 : dgC f L q ≤ hi) (c3 : dgC f L q = 0) : rnC f L q lo hi = (dgC f L q, q + 1) := (if_neg (fun z => z.elim c1 (Int32.not_lt.mpr c2))).trans (if_pos (Or.inl c3))
theorem rn_d (c1 : ¬ dgC f L q < lo) (c2 : dgC f L q ≤ hi) (c4 : ¬ 0 ≤ dgC f L (q + 1)) : rnC f L q lo hi = (dgC f L q, q + 1) := (if_neg (fun z => z.elim c1 (Int32.not_lt.mpr c2))).trans (if_pos (Or.inr (Int32.not_le.mp c4)))
theorem rn_e (c1 : ¬ dgC f L q < lo) (c2 : dgC f L q ≤ hi) (c3 : ¬ dgC f L q = 0) (c4 : 0 ≤ dgC f L (q + 1)) (c5 : ¬ 10 * dgC f L q + dgC f L (q + 1) ≤ hi) : rnC f L q lo hi = (-1, q + 1) := (if_neg (fun z => z.elim c1 (Int32.not_lt.mpr c2))).trans ((if_neg (fun z => z.elim c3 (Int32.not_lt.mpr c4))).trans (if_pos (Int32.not_le.mp c5)))
theorem rn_f (c1 : ¬ dgC f L q < lo) (c2 : dgC f L q ≤ hi) (c3 : ¬ dgC f L q = 0) (c4 : 0 ≤ dgC f L (q + 1)) (c5 : 10 * dgC f L q + dgC f L (q + 1) ≤ hi) : rnC f L q lo hi = (10 * dgC f L q + dgC f L (q + 1), q + 2) := (if_neg (fun z => z.elim c1 (Int32.not_lt.mpr c2))).trans ((if_neg (fun z => z.elim c3 (Int32.not_lt.mpr c4))).trans (if_neg (Int32.not_lt.mpr c5)))
end
theorem win_y {x lo hi : Int32} (c : ¬ x < lo) (c2 : ¬ hi < x) : 1 = winC x lo hi := (if_pos (⟨Int32.not_lt.mp c, Int32.not_lt.mp c2⟩ : lo ≤ x ∧ x ≤ hi)).symm
theorem win_1 {x lo hi : Int32} (c : x < lo) : 0 = winC x lo hi := (if_neg (fun z : lo ≤ x ∧ x ≤ hi => absurd z.1 (Int32.not_le.mpr c))).symm
theorem win_2 {x lo hi : Int32} (c : hi < x) : 0 = winC x lo hi := (if_neg (fun z : lo ≤ x ∧ x ≤ hi => absurd z.2 (Int32.not_le.mpr c))).symm
section
variable {x : Int64} {q : Nat}
theorem chw_0 (h : 8 ≤ q) (h2 : q ≤ 8) : chW x (8 - q) q = some q := by
  rw [show 8 - q = 0 by omega]
  rfl
theorem chw_s (h : q < 8) : chW x (8 - q) q = if codC x (nI q) = 0 then some q else if winC (codC x (nI q)) 33 126 = 0 then none else chW x (8 - (q + 1)) (q + 1) := by
  rw [show 8 - q = (8 - (q + 1)) + 1 by omega]
  rfl
theorem chw_1 (h : q < 8) (c : codC x (nI q) = 0) : chW x (8 - q) q = some q := by rw [chw_s h, if_pos c]
theorem chw_2 (h : q < 8) (c : ¬ codC x (nI q) = 0) (c2 : winC (codC x (nI q)) 33 126 = 0) : chW x (8 - q) q = none := by rw [chw_s h, if_neg c, if_pos c2]
theorem chw_3 (h : q < 8) (c : ¬ codC x (nI q) = 0) (c2 : ¬ winC (codC x (nI q)) 33 126 = 0) : chW x (8 - (q + 1)) (q + 1) = chW x (8 - q) q := by rw [chw_s h, if_neg c, if_neg c2]
theorem chc_n (h : chW x 8 0 = none) : 0 = chC x := by unfold chC; rw [h]
theorem chc_s (h : chW x 8 0 = some q) : chC x = if q = 8 ∨ shrC x (nI q) = 0 then nI q else 0 := by unfold chC; rw [h]
theorem chc_q (h : chW x 8 0 = some q) : q ≤ 8 := by have := chW_le x 8 0 q h; omega
theorem chc_a (h : chW x 8 0 = some q) (c : nI q = 8) : nI q = chC x := by
  rw [chc_s h, if_pos (Or.inl ?_)]
  have := chc_q h
  exact (nI_eq (by omega) (by decide)).mp c
theorem cmp0 {a : Int64} (c : lg_cmp a 0 = 0) : a = 0 := (lg_cmp_eq a 0).mp c
theorem chc_b (h : chW x 8 0 = some q) (c : lg_cmp (shrC x (nI q)) 0 = 0) : nI q = chC x := by rw [chc_s h, if_pos (Or.inr (cmp0 c))]
theorem chc_c (h : chW x 8 0 = some q) (c1 : ¬ nI q = 8) (c2 : ¬ lg_cmp (shrC x (nI q)) 0 = 0) : 0 = chC x := by
  rw [chc_s h, if_neg]
  rintro (z | z)
  · exact c1 (by rw [z]; rfl)
  · exact c2 ((lg_cmp_eq _ 0).mpr z)
end
theorem ite_ok {o : Bool} (c : ¬ (if o = true then (1 : Int32) else 0) = 0) : o = true := Classical.byContradiction (fun h => c (if_neg h))
theorem ite_no {o : Bool} (c : (if o = true then (1 : Int32) else 0) = 0) : ¬ o = true := ite10.mp c
theorem dec_ite (x : Int32) : (if 0 ≤ x then (1 : Int32) else 0) = if decide (0 ≤ x) = true then 1 else 0 := by
  by_cases h : 0 ≤ x
  · rw [if_pos h, if_pos (decide_eq_true h)]
  · rw [if_neg h, if_neg (fun q => h (of_decide_eq_true q))]
theorem rg_neg {r1 x : Int32} (e : r1 = x) (c : r1 < 0) : (0 : Int32) = if 0 ≤ x then 1 else 0 := by rw [← e, if_neg (Int32.not_le.mpr c)]
theorem rg_pos {r1 x : Int32} (e : r1 = x) (c : ¬ r1 < 0) : (1 : Int32) = if 0 ≤ x then 1 else 0 := by rw [← e, if_pos (Int32.not_lt.mp c)]
theorem rd_neg {r1 x : Int32} (e : r1 = x) (c : r1 < 0) : (0 : Int32) = if decide (0 ≤ x) = true then 1 else 0 := (rg_neg e c).trans (dec_ite x)
theorem rd_pos {r1 x : Int32} (e : r1 = x) (c : ¬ r1 < 0) : (1 : Int32) = if decide (0 ≤ x) = true then 1 else 0 := (rg_pos e c).trans (dec_ite x)
theorem nI_nlt_of {a b : Nat} (ha : a < 2 ^ 31) (hb : b < 2 ^ 31) (h : nI a < nI b) : a < b := (nI_ltI ha hb).mp h
section
variable {f : Nat → Int32} {L q : Nat}
theorem dg_a (c : sgC f L q < 48) : -1 = dgC f L q := (if_neg (fun z : 48 ≤ sgC f L q ∧ sgC f L q ≤ 57 => absurd z.1 (Int32.not_le.mpr c))).symm
theorem dg_b (c : 57 < sgC f L q) : -1 = dgC f L q := (if_neg (fun z : 48 ≤ sgC f L q ∧ sgC f L q ≤ 57 => absurd z.2 (Int32.not_le.mpr c))).symm
theorem dg_c (c : ¬ sgC f L q < 48) (c2 : ¬ 57 < sgC f L q) : sgC f L q - 48 = dgC f L q := (if_pos (⟨Int32.not_lt.mp c, Int32.not_lt.mp c2⟩ : 48 ≤ sgC f L q ∧ sgC f L q ≤ 57)).symm
theorem rai_1 {r1 : Int32} (e : r1 = (rnC f L q 0 99).1) (c : r1 < 0) : raiC f L q = (false, (rnC f L q 0 99).2, 0, 0) := if_pos (Or.inl (by rw [← e]; exact c))
theorem rai_2 (c : ¬ sgC f L (rnC f L q 0 99).2 = 104) : raiC f L q = (false, (rnC f L q 0 99).2, 0, 0) := if_pos (Or.inr c)
theorem rai_3 {r1 : Int32} (e : r1 = (rnC f L q 0 99).1) (c : ¬ r1 < 0) (c2 : sgC f L (rnC f L q 0 99).2 = 104) : raiC f L q = (decide (0 ≤ (rnC f L ((rnC f L q 0 99).2 + 1) 1 24).1), (rnC f L ((rnC f L q 0 99).2 + 1) 1 24).2, (rnC f L q 0 99).1, (rnC f L ((rnC f L q 0 99).2 + 1) 1 24).1) := if_neg (fun z => z.elim (by rw [← e]; exact c) (fun z => z c2))
theorem ord_n (c : ¬ sgC f L q = 114) (c2 : ¬ sgC f L q = 115) : ordC f L q = (false, q, 0, 0, 0) := (if_neg c).trans (if_neg c2)
theorem ord_r (c : sgC f L q = 114) : ordC f L q = ((raiC f L (q + 1)).1, (raiC f L (q + 1)).2.1, 114, (raiC f L (q + 1)).2.2.1, (raiC f L (q + 1)).2.2.2) := if_pos c
theorem ord_s (c : sgC f L q = 115) : ordC f L q = (decide (0 ≤ (rnC f L (q + 1) 0 5).1), (rnC f L (q + 1) 0 5).2, 115, (rnC f L (q + 1) 0 5).1, 0) := (if_neg (by rw [c]; decide)).trans (if_pos c)
theorem raiC_q (f : Nat → Int32) (L q : Nat) : (raiC f L q).2.1 ≤ q + 5 := by
  have h1 := rnC_q f L q 0 99
  have h2 := rnC_q f L ((rnC f L q 0 99).2 + 1) 1 24
  unfold raiC
  split
  · show (rnC f L q 0 99).2 ≤ _; omega
  · show (rnC f L ((rnC f L q 0 99).2 + 1) 1 24).2 ≤ _; omega
theorem ordC_q (f : Nat → Int32) (L q : Nat) : (ordC f L q).2.1 ≤ q + 6 := by
  unfold ordC
  split
  · have := raiC_q f L (q + 1); show (raiC f L (q + 1)).2.1 ≤ _; omega
  · split
    · have := rnC_q f L (q + 1) 0 5; show (rnC f L (q + 1) 0 5).2 ≤ _; omega
    · show q ≤ _; omega
theorem sg_chr (hch : ∀ i, i < 60 → narrow .char (.int (f i)) = .int (f i) ∧ fits .char (.int (f i)) = true) (hL : L ≤ 60) (q : Nat) : narrow .char (.int (sgC f L q)) = .int (sgC f L q) ∧ fits .char (.int (sgC f L q)) = true := by
  unfold sgC
  split
  · exact hch q (by omega)
  · exact ⟨rfl, rfl⟩
theorem fau_s {o : Nat} (ho : o < 60) : fauC f L (60 - o) q = if (ordC f L q).1 = true then (if L ≤ (ordC f L q).2.1 then none else if sgC f L (ordC f L q).2.1 = 59 then fauC f L (60 - (o + 1)) ((ordC f L q).2.1 + 1) else some (ordC f L q).2.1) else some (ordC f L q).2.1 := by
  rw [show 60 - o = (60 - (o + 1)) + 1 by omega]
  rfl
theorem fau_0 {o : Nat} (h : 60 ≤ o) (h2 : o ≤ 60) : fauC f L (60 - o) q = some q := by
  rw [show 60 - o = 0 by omega]
  rfl
theorem fau_1 {o : Nat} (ho : o < 60) (ok : (ordC f L q).1 = true) (h : L ≤ (ordC f L q).2.1) : fauC f L (60 - o) q = none := by rw [fau_s ho, if_pos ok, if_pos h]
theorem fau_2 {o : Nat} (ho : o < 60) (ok : (ordC f L q).1 = true) (h : (ordC f L q).2.1 < L) (h2 : ¬ sgC f L (ordC f L q).2.1 = 59) : fauC f L (60 - o) q = some (ordC f L q).2.1 := by rw [fau_s ho, if_pos ok, if_neg (by omega), if_neg h2]
theorem fau_4 {o : Nat} (ho : o < 60) (ok : ¬ (ordC f L q).1 = true) : fauC f L (60 - o) q = some (ordC f L q).2.1 := by rw [fau_s ho, if_neg ok]
theorem fau_3 {o : Nat} (ho : o < 60) (ok : (ordC f L q).1 = true) {r : Int32} (h : r < nI L) (h2 : sgC f L (ordC f L q).2.1 = 59) : fauC f L (60 - (o + 1)) ((ordC f L q).2.1 + 1) = fauC f L (60 - o) q := by
  have hlt : (ordC f L q).2.1 < L := by
    apply Classical.byContradiction
    intro hn
    unfold sgC at h2
    rw [if_neg hn] at h2
    revert h2; decide
  rw [fau_s ho, if_pos ok, if_neg (by omega), if_pos h2]
end
set_option maxHeartbeats 4000000 in
set_option maxRecDepth 100000 in
/-- the sign at a place -/
theorem k_X3_signAt (l : Launch) (g : GG) (A : Nat → Prop) (M0 : MM) (a : Nat) (f : Nat → Int32) (L : Nat) (rs : Nat → Int32) (hR : RepT g A M0 a f (nI L) rs) (hL : L ≤ 60) (hch : ∀ i, i < 60 → narrow .char (.int (f i)) = .int (f i) ∧ fits .char (.int (f i)) = true) (q : Nat) (hq : q < 2 ^ 31) : Met l yX3_signAt (Uw yX3_signAt cX3_signAt 2 (Option.some ClassFile.FieldType.char)) (rmD 0) (PreM [.ref (a), .int (nI q)] g A M0) (PosI (fun r M1 => r = (sgC f L q) ∧ M1 = M0) g A) 0 0 A := by
  refine mk_Met (own := RX3) rfl rfl (by decide) (Nat.le_of_ble_eq_true rfl) ?_
  intro p e s m below meth c ls aa Q haa hQ hx hb hr hlk hml hown hts hK hM hS hl hnm
  obtain ⟨M, hMM⟩ : ∃ M, M = M0 := ⟨_, rfl⟩
  rw [← hMM] at hM hR
  have ht : ∀ w ∈ lw_good, w.before _ s = true := fun w h => hts w (List.mem_cons_of_mem _ h)
  have hF : FrT a M0 M := by rw [hMM]; exact FrT.rf
  have hl : lv_has ls 2 [(0, .ref (a)), (1, .int (nI q))] := hl
  refine lv_iload_n hx hb dX3_signAt_0 rfl (lv_at hl 1 rfl) ?_
  refine lv_if_lt (tgt := 30) hx hb dX3_signAt_1 (by decide) (fun c_1 => absurd c_1 (nI_pos hq)) (fun c_1 => ?_)
  refine lv_iload_n hx hb dX3_signAt_4 rfl (lv_at hl 1 rfl) ?_
  refine lv_aload_n hx hb dX3_signAt_5 rfl (lv_at hl 0 rfl) ?_
  refine rt_getPl hx hb ht ui_X3 hown hK hM hR (ht _ uw_236) dX3_signAt_6 ?_
  refine lv_icmp_ge (tgt := 30) hx hb dX3_signAt_9 (by decide) (fun c_9 => ?_) (fun c_9 => ?_)
  · have hqL : ¬ q < L := fun z => (nI_ge z (by omega)) c_9
    refine lv_iconst (v := 0) hx hb dX3_signAt_30 (by first | rfl | decide) ?_
    subst hQ
    exact m_zret hx hb hr (rfl) hlk hK hM hS dX3_signAt_31 (⟨by unfold sgC; first | rw [if_pos hqL] | rw [if_neg hqL], hMM⟩)
  · have hqL : q < L := nI_lt_of (by omega) (by omega) c_9
    refine lv_iload_n hx hb dX3_signAt_12 rfl (lv_at hl 1 rfl) ?_
    refine lv_aload_n hx hb dX3_signAt_13 rfl (lv_at hl 0 rfl) ?_
    refine rt_getPs hx hb ht ui_X3 hown hK hM hR (ht _ uw_235) dX3_signAt_14 ?_
    refine rt_lenS hx hb hK hM hR dX3_signAt_17 ?_
    refine lv_icmp_ge (tgt := 30) hx hb dX3_signAt_18 (by decide) (fun c_18 => absurd c_18 (nI_ge (show q < 60 by omega) (by decide))) (fun c_18 => ?_)
    refine lv_aload_n hx hb dX3_signAt_21 rfl (lv_at hl 0 rfl) ?_
    refine rt_getPs hx hb ht ui_X3 hown hK hM hR (ht _ uw_235) dX3_signAt_22 ?_
    refine lv_iload_n hx hb dX3_signAt_25 rfl (lv_at hl 1 rfl) ?_
    refine rt_cald hx hb hK hM hR (show q < 60 by omega) dX3_signAt_26 ?_
    refine lv_goto (tgt := 31) hx hb dX3_signAt_27 (by decide) ?_
    subst hQ
    exact m_zret hx hb hr ((hch q (by omega)).1) hlk hK hM hS dX3_signAt_31 (⟨by unfold sgC; first | rw [if_pos hqL] | rw [if_neg hqL], hMM⟩)

set_option maxHeartbeats 4000000 in
set_option maxRecDepth 100000 in
/-- the digit at a place -/
theorem k_X3_digitAt (l : Launch) (g : GG) (A : Nat → Prop) (M0 : MM) (a : Nat) (f : Nat → Int32) (L : Nat) (rs : Nat → Int32) (hR : RepT g A M0 a f (nI L) rs) (hL : L ≤ 60) (hch : ∀ i, i < 60 → narrow .char (.int (f i)) = .int (f i) ∧ fits .char (.int (f i)) = true) (q : Nat) (hq : q < 2 ^ 31) : Met l yX3_digitAt (Uw yX3_digitAt cX3_digitAt 3 (Option.some ClassFile.FieldType.int)) (rmD 1) (PreM [.ref (a), .int (nI q)] g A M0) (PosI (fun r M1 => r = (dgC f L q) ∧ M1 = M0) g A) 0 0 A := by
  refine mk_Met (own := RX3) rfl rfl (by decide) (Nat.le_of_ble_eq_true rfl) ?_
  intro p e s m below meth c ls aa Q haa hQ hx hb hr hlk hml hown hts hK hM hS hl hnm
  obtain ⟨M, hMM⟩ : ∃ M, M = M0 := ⟨_, rfl⟩
  rw [← hMM] at hM hR
  have ht : ∀ w ∈ lw_good, w.before _ s = true := fun w h => hts w (List.mem_cons_of_mem _ h)
  have hF : FrT a M0 M := by rw [hMM]; exact FrT.rf
  have hl : lv_has ls 3 [(0, .ref (a)), (1, .int (nI q))] := hl
  refine lv_aload_n hx hb dX3_digitAt_0 rfl (lv_at hl 0 rfl) ?_
  refine lv_iload_n hx hb dX3_digitAt_1 rfl (lv_at hl 1 rfl) ?_
  refine m_callRI (val := sgC f L q) (As := [.int (nI q)]) (rest := []) ⟨hx, hb, hml, hown, ht⟩ (k_X3_signAt l g A M a f L rs hR hL hch q hq) (cwV 1 ht (gU uw_461 uw_446 uw_447 uw_40 uw_448) rfl rfl rfl (by decide +kernel) ⟨by decide, by decide⟩) hK hM hS (m_recv hK hM hR.1 hR.2.2.2.1 rfl) rfl hl.1 rfl (Nat.le_of_ble_eq_true rfl) dX3_digitAt_2 ⟨by decide, by decide⟩ (fun H locs hM hS => ?_)
  refine lv_istore_n (lv' := [(2, .int (sgC f L q)), (0, .ref (a)), (1, .int (nI q))]) hx hb dX3_digitAt_5 rfl hl (by decide) rfl (fun ls hl => ?_)
  refine lv_iload_n hx hb dX3_digitAt_6 rfl (lv_at hl 0 rfl) ?_
  refine lv_bipush (v := 48) hx hb dX3_digitAt_7 (by first | rfl | decide) ?_
  refine lv_icmp_lt (tgt := 25) hx hb dX3_digitAt_9 (by decide) (fun c_9 => ?_) (fun c_9 => ?_)
  · refine lv_iconst (v := (-1)) hx hb dX3_digitAt_25 (by first | rfl | decide) ?_
    subst hQ
    exact m_zret hx hb hr (rfl) hlk hK hM hS dX3_digitAt_26 (⟨dg_a c_9, hMM⟩)
  · refine lv_iload_n hx hb dX3_digitAt_12 rfl (lv_at hl 0 rfl) ?_
    refine lv_bipush (v := 57) hx hb dX3_digitAt_13 (by first | rfl | decide) ?_
    refine lv_icmp_gt (tgt := 25) hx hb dX3_digitAt_15 (by decide) (fun c_15 => ?_) (fun c_15 => ?_)
    · refine lv_iconst (v := (-1)) hx hb dX3_digitAt_25 (by first | rfl | decide) ?_
      subst hQ
      exact m_zret hx hb hr (rfl) hlk hK hM hS dX3_digitAt_26 (⟨dg_b c_15, hMM⟩)
    · refine lv_iload_n hx hb dX3_digitAt_18 rfl (lv_at hl 0 rfl) ?_
      refine lv_bipush (v := 48) hx hb dX3_digitAt_19 (by first | rfl | decide) ?_
      refine lv_isub hx hb dX3_digitAt_21 ?_
      refine lv_goto (tgt := 26) hx hb dX3_digitAt_22 (by decide) ?_
      subst hQ
      exact m_zret hx hb hr (rfl) hlk hK hM hS dX3_digitAt_26 (⟨dg_c c_9 c_15, hMM⟩)

set_option maxHeartbeats 4000000 in
set_option maxRecDepth 100000 in
/-- a sign more -/
theorem k_X3_append (l : Launch) (g : GG) (A : Nat → Prop) (M0 : MM) (a : Nat) (f : Nat → Int32) (L : Nat) (rs : Nat → Int32) (hR : RepT g A M0 a f (nI L) rs) (hL : L ≤ 60) (x : Int32) (hL1 : L < 60) : Met l yX3_append (Uw yX3_append cX3_append 2 (Option.none : Option ClassFile.FieldType)) (rmD 0) (PreM [.ref (a), .int (x)] g A M0) (PosV (fun M1 => RepT g A M1 a (va_up f L (vp_nar .char x)) (nI (L + 1)) (rs) ∧ FrT a M0 M1) g A) 0 0 A := by
  refine mk_Met (own := RX3) rfl rfl (by decide) (Nat.le_of_ble_eq_true rfl) ?_
  intro p e s m below meth c ls aa Q haa hQ hx hb hr hlk hml hown hts hK hM hS hl hnm
  obtain ⟨M, hMM⟩ : ∃ M, M = M0 := ⟨_, rfl⟩
  rw [← hMM] at hM hR
  have ht : ∀ w ∈ lw_good, w.before _ s = true := fun w h => hts w (List.mem_cons_of_mem _ h)
  have hF : FrT a M0 M := by rw [hMM]; exact FrT.rf
  have hl : lv_has ls 2 [(0, .ref (a)), (1, .int (x))] := hl
  refine lv_aload_n hx hb dX3_append_0 rfl (lv_at hl 0 rfl) ?_
  refine rt_getPl hx hb ht ui_X3 hown hK hM hR (ht _ uw_236) dX3_append_1 ?_
  refine lv_if_lt (tgt := 39) hx hb dX3_append_4 (by decide) (fun c_4 => absurd c_4 (nI_pos (by omega))) (fun c_4 => ?_)
  refine lv_aload_n hx hb dX3_append_7 rfl (lv_at hl 0 rfl) ?_
  refine rt_getPl hx hb ht ui_X3 hown hK hM hR (ht _ uw_236) dX3_append_8 ?_
  refine lv_aload_n hx hb dX3_append_11 rfl (lv_at hl 0 rfl) ?_
  refine rt_getPs hx hb ht ui_X3 hown hK hM hR (ht _ uw_235) dX3_append_12 ?_
  refine rt_lenS hx hb hK hM hR dX3_append_15 ?_
  refine lv_icmp_ge (tgt := 39) hx hb dX3_append_16 (by decide) (fun c_16 => absurd c_16 (nI_ge hL1 (by decide))) (fun c_16 => ?_)
  refine lv_aload_n hx hb dX3_append_19 rfl (lv_at hl 0 rfl) ?_
  refine rt_getPs hx hb ht ui_X3 hown hK hM hR (ht _ uw_235) dX3_append_20 ?_
  refine lv_aload_n hx hb dX3_append_23 rfl (lv_at hl 0 rfl) ?_
  refine rt_getPl hx hb ht ui_X3 hown hK hM hR (ht _ uw_236) dX3_append_24 ?_
  refine lv_iload_n hx hb dX3_append_27 rfl (lv_at hl 1 rfl) ?_
  refine rt_cast hx hb hK hM hS hR hF hL1 dX3_append_28 (fun M H locs hM hR hF hS => ?_)
  refine lv_aload_n hx hb dX3_append_29 rfl (lv_at hl 0 rfl) ?_
  refine lv_dup hx hb dX3_append_30 rfl ?_
  refine rt_getPl hx hb ht ui_X3 hown hK hM hR (ht _ uw_236) dX3_append_31 ?_
  refine lv_iconst (v := 1) hx hb dX3_append_34 (by first | rfl | decide) ?_
  refine lv_iadd hx hb dX3_append_35 ?_
  refine rt_putPl hx hb ht ui_X3 hown hK hM hS hR hF (ht _ uw_236) dX3_append_36 (fun M H locs hM hR hF hS => ?_)
  subst hQ
  exact m_vret hx hb hr hlk hK hM hS dX3_append_39 (⟨RepT.eql hR (nI_1 L).symm rfl, hF⟩)

set_option maxHeartbeats 4000000 in
set_option maxRecDepth 100000 in
/-- back to the start -/
theorem k_X2_goToStart (l : Launch) (g : GG) (A : Nat → Prop) (M0 : MM) (a : Nat) (f : Nat → Int32) (L : Nat) (rs : Nat → Int32) (hR : RepT g A M0 a f (nI L) rs) (hL : L ≤ 60)  : Met l yX2_goToStart (Uw yX2_goToStart cX2_goToStart 1 (Option.none : Option ClassFile.FieldType)) (rmD 0) (PreM [.ref (a + 2)] g A M0) (PosV (fun M1 => RepT g A M1 a (f) (nI L) (va_up rs 0 0) ∧ FrT a M0 M1) g A) 0 0 A := by
  refine mk_Met (own := RX2) rfl rfl (by decide) (Nat.le_of_ble_eq_true rfl) ?_
  intro p e s m below meth c ls aa Q haa hQ hx hb hr hlk hml hown hts hK hM hS hl hnm
  obtain ⟨M, hMM⟩ : ∃ M, M = M0 := ⟨_, rfl⟩
  rw [← hMM] at hM hR
  have ht : ∀ w ∈ lw_good, w.before _ s = true := fun w h => hts w (List.mem_cons_of_mem _ h)
  have hF : FrT a M0 M := by rw [hMM]; exact FrT.rf
  have hl : lv_has ls 1 [(0, .ref (a + 2))] := hl
  refine lv_aload_n hx hb dX2_goToStart_0 rfl (lv_at hl 0 rfl) ?_
  refine lv_iconst (v := 0) hx hb dX2_goToStart_1 (by first | rfl | decide) ?_
  refine rt_putD hx hb ht ui_X2 hown hK hM hS hR hF 0 (by decide) (by decide) (ht _ uw_253) dX2_goToStart_2 (fun M H locs hM hR hF hS => ?_)
  subst hQ
  exact m_vret hx hb hr hlk hK hM hS dX2_goToStart_5 (⟨hR, hF⟩)

set_option maxHeartbeats 4000000 in
set_option maxRecDepth 100000 in
/-- one place on -/
theorem k_X2_passSeparator (l : Launch) (g : GG) (A : Nat → Prop) (M0 : MM) (a : Nat) (f : Nat → Int32) (L : Nat) (rs : Nat → Int32) (hR : RepT g A M0 a f (nI L) rs) (hL : L ≤ 60)  : Met l yX2_passSeparator (Uw yX2_passSeparator cX2_passSeparator 1 (Option.none : Option ClassFile.FieldType)) (rmD 0) (PreM [.ref (a + 2)] g A M0) (PosV (fun M1 => RepT g A M1 a (f) (nI L) (va_up rs 0 (rs 0 + 1)) ∧ FrT a M0 M1) g A) 0 0 A := by
  refine mk_Met (own := RX2) rfl rfl (by decide) (Nat.le_of_ble_eq_true rfl) ?_
  intro p e s m below meth c ls aa Q haa hQ hx hb hr hlk hml hown hts hK hM hS hl hnm
  obtain ⟨M, hMM⟩ : ∃ M, M = M0 := ⟨_, rfl⟩
  rw [← hMM] at hM hR
  have ht : ∀ w ∈ lw_good, w.before _ s = true := fun w h => hts w (List.mem_cons_of_mem _ h)
  have hF : FrT a M0 M := by rw [hMM]; exact FrT.rf
  have hl : lv_has ls 1 [(0, .ref (a + 2))] := hl
  refine lv_aload_n hx hb dX2_passSeparator_0 rfl (lv_at hl 0 rfl) ?_
  refine lv_dup hx hb dX2_passSeparator_1 rfl ?_
  refine rt_getD hx hb ht ui_X2 hown hK hM hR 0 (by decide) (ht _ uw_253) dX2_passSeparator_2 ?_
  refine lv_iconst (v := 1) hx hb dX2_passSeparator_5 (by first | rfl | decide) ?_
  refine lv_iadd hx hb dX2_passSeparator_6 ?_
  refine rt_putD hx hb ht ui_X2 hown hK hM hS hR hF 0 (by decide) (by decide) (ht _ uw_253) dX2_passSeparator_7 (fun M H locs hM hR hF hS => ?_)
  subst hQ
  exact m_vret hx hb hr hlk hK hM hS dX2_passSeparator_10 (⟨hR, hF⟩)

set_option maxHeartbeats 4000000 in
set_option maxRecDepth 100000 in
/-- a number of one or two digits -/
theorem k_X2_readNumber (l : Launch) (g : GG) (A : Nat → Prop) (M0 : MM) (a : Nat) (f : Nat → Int32) (L : Nat) (rs : Nat → Int32) (hR : RepT g A M0 a f (nI L) rs) (hL : L ≤ 60) (hch : ∀ i, i < 60 → narrow .char (.int (f i)) = .int (f i) ∧ fits .char (.int (f i)) = true) (q : Nat) (hq : q < 1000) (hat : rs 0 = nI q) (lo hi : Int32) : Met l yX2_readNumber (Uw yX2_readNumber cX2_readNumber 6 (Option.some ClassFile.FieldType.int)) (rmD 2) (PreM [.ref (a + 2), .int (lo), .int (hi)] g A M0) (PosI (fun r M1 => r = (rnC f L q lo hi).1 ∧ RepT g A M1 a (f) (nI L) (va_up rs 0 (nI (rnC f L q lo hi).2)) ∧ FrT a M0 M1) g A) 0 0 A := by
  refine mk_Met (own := RX2) rfl rfl (by decide) (Nat.le_of_ble_eq_true rfl) ?_
  intro p e s m below meth c ls aa Q haa hQ hx hb hr hlk hml hown hts hK hM hS hl hnm
  obtain ⟨M, hMM⟩ : ∃ M, M = M0 := ⟨_, rfl⟩
  rw [← hMM] at hM hR
  have ht : ∀ w ∈ lw_good, w.before _ s = true := fun w h => hts w (List.mem_cons_of_mem _ h)
  have hF : FrT a M0 M := by rw [hMM]; exact FrT.rf
  have hl : lv_has ls 6 [(0, .ref (a + 2)), (1, .int (lo)), (2, .int (hi))] := hl
  refine lv_aload_n hx hb dX2_readNumber_0 rfl (lv_at hl 0 rfl) ?_
  refine rt_getDp hx hb ht ui_X2 hown hK hM hR (ht _ uw_252) dX2_readNumber_1 ?_
  refine lv_aload_n hx hb dX2_readNumber_4 rfl (lv_at hl 0 rfl) ?_
  refine rt_getD hx hb ht ui_X2 hown hK hM hR 0 (by decide) (ht _ uw_253) dX2_readNumber_5 ?_
  refine m_callRI (val := dgC f L q) (As := [.int (rs 0)]) (rest := []) ⟨hx, hb, hml, hown, ht⟩ ((by have z := k_X3_digitAt l g A M a f L rs hR hL hch q (by omega); rw [← hat] at z; exact z)) (cwV 1 ht (gU uw_457 uw_458 uw_459 uw_40 uw_460) rfl rfl rfl (by decide +kernel) ⟨by decide, by decide⟩) hK hM hS (m_recv hK hM hR.1 hR.2.2.2.1 rfl) rfl hl.1 rfl (Nat.le_of_ble_eq_true rfl) dX2_readNumber_8 ⟨by decide, by decide⟩ (fun H locs hM hS => ?_)
  refine lv_istore_n (lv' := [(3, .int (dgC f L q)), (0, .ref (a + 2)), (1, .int (lo)), (2, .int (hi))]) hx hb dX2_readNumber_11 rfl hl (by decide) rfl (fun ls hl => ?_)
  refine lv_iload_n hx hb dX2_readNumber_12 rfl (lv_at hl 0 rfl) ?_
  refine lv_iload_n hx hb dX2_readNumber_13 rfl (lv_at hl 2 rfl) ?_
  refine lv_icmp_lt (tgt := 22) hx hb dX2_readNumber_14 (by decide) (fun c_14 => ?_) (fun c_14 => ?_)
  · refine lv_iconst (v := (-1)) hx hb dX2_readNumber_22 (by first | rfl | decide) ?_
    subst hQ
    exact m_zret hx hb hr (rfl) hlk hK hM hS dX2_readNumber_23 (by first | exact rn_end0 (rn_a c_14) (RepT.eqr hR (rs_same hat)) hF | exact rn_end0 (rn_b (lo := lo) c_19) (RepT.eqr hR (rs_same hat)) hF)
  · refine lv_iload_n hx hb dX2_readNumber_17 rfl (lv_at hl 0 rfl) ?_
    refine lv_iload_n hx hb dX2_readNumber_18 rfl (lv_at hl 3 rfl) ?_
    refine lv_icmp_le (tgt := 24) hx hb dX2_readNumber_19 (by decide) (fun c_19 => ?_) (fun c_19 => ?_)
    · refine lv_aload_n hx hb dX2_readNumber_24 rfl (lv_at hl 1 rfl) ?_
      refine lv_dup hx hb dX2_readNumber_25 rfl ?_
      refine rt_getD hx hb ht ui_X2 hown hK hM hR 0 (by decide) (ht _ uw_253) dX2_readNumber_26 ?_
      refine lv_iconst (v := 1) hx hb dX2_readNumber_29 (by first | rfl | decide) ?_
      refine lv_iadd hx hb dX2_readNumber_30 ?_
      refine rt_putD hx hb ht ui_X2 hown hK hM hS hR hF 0 (by decide) (by decide) (ht _ uw_253) dX2_readNumber_31 (fun M H locs hM hR hF hS => ?_)
      refine lv_aload_n hx hb dX2_readNumber_34 rfl (lv_at hl 1 rfl) ?_
      refine rt_getDp hx hb ht ui_X2 hown hK hM hR (ht _ uw_252) dX2_readNumber_35 ?_
      refine lv_aload_n hx hb dX2_readNumber_38 rfl (lv_at hl 1 rfl) ?_
      refine rt_getD hx hb ht ui_X2 hown hK hM hR 0 (by decide) (ht _ uw_253) dX2_readNumber_39 ?_
      refine m_callRI (val := dgC f L (q + 1)) (As := [.int ((va_up rs 0 ((rs 0) + (1))) 0)]) (rest := []) ⟨hx, hb, hml, hown, ht⟩ ((by have z := k_X3_digitAt l g A M a f L _ hR hL hch (q + 1) (by omega); rw [← nI_1, ← hat] at z; exact z)) (cwV 1 ht (gU uw_457 uw_458 uw_459 uw_40 uw_460) rfl rfl rfl (by decide +kernel) ⟨by decide, by decide⟩) hK hM hS (m_recv hK hM hR.1 hR.2.2.2.1 rfl) rfl hl.1 rfl (Nat.le_of_ble_eq_true rfl) dX2_readNumber_42 ⟨by decide, by decide⟩ (fun H locs hM hS => ?_)
      refine lv_istore (lv' := [(4, .int (dgC f L (q + 1))), (3, .int (dgC f L q)), (0, .ref (a + 2)), (1, .int (lo)), (2, .int (hi))]) hx hb dX2_readNumber_45 hl (by decide) rfl (fun ls hl => ?_)
      refine lv_iload_n hx hb dX2_readNumber_47 rfl (lv_at hl 1 rfl) ?_
      refine lv_if_eq (tgt := 56) hx hb dX2_readNumber_48 (by decide) (fun c_48 => ?_) (fun c_48 => ?_)
      · refine lv_iload_n hx hb dX2_readNumber_56 rfl (lv_at hl 1 rfl) ?_
        subst hQ
        exact m_zret hx hb hr (rfl) hlk hK hM hS dX2_readNumber_57 (by first | exact rn_end0 (rn_c c_14 c_19 c_48) (RepT.eqr hR (rs_one hat)) hF | exact rn_end0 (rn_d c_14 c_19 c_53) (RepT.eqr hR (rs_one hat)) hF)
      · refine lv_iload hx hb dX2_readNumber_51 (lv_at hl 0 rfl) ?_
        refine lv_if_ge (tgt := 58) hx hb dX2_readNumber_53 (by decide) (fun c_53 => ?_) (fun c_53 => ?_)
        · refine lv_bipush (v := 10) hx hb dX2_readNumber_58 (by first | rfl | decide) ?_
          refine lv_iload_n hx hb dX2_readNumber_60 rfl (lv_at hl 1 rfl) ?_
          refine lv_imul hx hb dX2_readNumber_61 ?_
          refine lv_iload hx hb dX2_readNumber_62 (lv_at hl 0 rfl) ?_
          refine lv_iadd hx hb dX2_readNumber_64 ?_
          refine lv_istore (lv' := [(5, .int (((10) * (dgC f L q)) + (dgC f L (q + 1)))), (4, .int (dgC f L (q + 1))), (3, .int (dgC f L q)), (0, .ref (a + 2)), (1, .int (lo)), (2, .int (hi))]) hx hb dX2_readNumber_65 hl (by decide) rfl (fun ls hl => ?_)
          refine lv_iload hx hb dX2_readNumber_67 (lv_at hl 0 rfl) ?_
          refine lv_iload_n hx hb dX2_readNumber_69 rfl (lv_at hl 5 rfl) ?_
          refine lv_icmp_le (tgt := 75) hx hb dX2_readNumber_70 (by decide) (fun c_70 => ?_) (fun c_70 => ?_)
          · refine lv_aload_n hx hb dX2_readNumber_75 rfl (lv_at hl 3 rfl) ?_
            refine lv_dup hx hb dX2_readNumber_76 rfl ?_
            refine rt_getD hx hb ht ui_X2 hown hK hM hR 0 (by decide) (ht _ uw_253) dX2_readNumber_77 ?_
            refine lv_iconst (v := 1) hx hb dX2_readNumber_80 (by first | rfl | decide) ?_
            refine lv_iadd hx hb dX2_readNumber_81 ?_
            refine rt_putD hx hb ht ui_X2 hown hK hM hS hR hF 0 (by decide) (by decide) (ht _ uw_253) dX2_readNumber_82 (fun M H locs hM hR hF hS => ?_)
            refine lv_iload hx hb dX2_readNumber_85 (lv_at hl 0 rfl) ?_
            subst hQ
            exact m_zret hx hb hr (rfl) hlk hK hM hS dX2_readNumber_87 (rn_end0 (rn_f c_14 c_19 c_48 c_53 c_70) (RepT.eqr hR (rs_two hat)) hF)
          · refine lv_iconst (v := (-1)) hx hb dX2_readNumber_73 (by first | rfl | decide) ?_
            subst hQ
            exact m_zret hx hb hr (rfl) hlk hK hM hS dX2_readNumber_74 (rn_end0 (rn_e c_14 c_19 c_48 c_53 c_70) (RepT.eqr hR (rs_one hat)) hF)
        · refine lv_iload_n hx hb dX2_readNumber_56 rfl (lv_at hl 1 rfl) ?_
          subst hQ
          exact m_zret hx hb hr (rfl) hlk hK hM hS dX2_readNumber_57 (by first | exact rn_end0 (rn_c c_14 c_19 c_48) (RepT.eqr hR (rs_one hat)) hF | exact rn_end0 (rn_d c_14 c_19 c_53) (RepT.eqr hR (rs_one hat)) hF)
    · refine lv_iconst (v := (-1)) hx hb dX2_readNumber_22 (by first | rfl | decide) ?_
      subst hQ
      exact m_zret hx hb hr (rfl) hlk hK hM hS dX2_readNumber_23 (by first | exact rn_end0 (rn_a c_14) (RepT.eqr hR (rs_same hat)) hF | exact rn_end0 (rn_b (lo := lo) c_19) (RepT.eqr hR (rs_same hat)) hF)

set_option maxHeartbeats 4000000 in
set_option maxRecDepth 100000 in
/-- the gauge of an order -/
theorem k_X2_readGauge (l : Launch) (g : GG) (A : Nat → Prop) (M0 : MM) (a : Nat) (f : Nat → Int32) (L : Nat) (rs : Nat → Int32) (hR : RepT g A M0 a f (nI L) rs) (hL : L ≤ 60) (hch : ∀ i, i < 60 → narrow .char (.int (f i)) = .int (f i) ∧ fits .char (.int (f i)) = true) (q : Nat) (hq : q < 1000) (hat : rs 0 = nI q)  : Met l yX2_readGauge (Uw yX2_readGauge cX2_readGauge 1 (Option.some ClassFile.FieldType.boolean)) (rmD 3) (PreM [.ref (a + 2)] g A M0) (PosI (fun r M1 => r = (if 0 ≤ (rnC f L q 0 5).1 then 1 else 0) ∧ ∃ rs1, RepT g A M1 a (f) (nI L) (rs1) ∧ FrT a M0 M1 ∧ rs1 0 = nI (rnC f L q 0 5).2 ∧ rs1 1 = rs 1 ∧ rs1 4 = (rnC f L q 0 5).1) g A) 0 0 A := by
  refine mk_Met (own := RX2) rfl rfl (by decide) (Nat.le_of_ble_eq_true rfl) ?_
  intro p e s m below meth c ls aa Q haa hQ hx hb hr hlk hml hown hts hK hM hS hl hnm
  obtain ⟨M, hMM⟩ : ∃ M, M = M0 := ⟨_, rfl⟩
  rw [← hMM] at hM hR
  have ht : ∀ w ∈ lw_good, w.before _ s = true := fun w h => hts w (List.mem_cons_of_mem _ h)
  have hF : FrT a M0 M := by rw [hMM]; exact FrT.rf
  have hl : lv_has ls 1 [(0, .ref (a + 2))] := hl
  refine lv_aload_n hx hb dX2_readGauge_0 rfl (lv_at hl 0 rfl) ?_
  refine lv_aload_n hx hb dX2_readGauge_1 rfl (lv_at hl 0 rfl) ?_
  refine lv_iconst (v := 0) hx hb dX2_readGauge_2 (by first | rfl | decide) ?_
  refine lv_iconst (v := 5) hx hb dX2_readGauge_3 (by first | rfl | decide) ?_
  refine m_callI (As := [.int (0), .int (5)]) (rest := [.ref (a + 2)]) ⟨hx, hb, hml, hown, ht⟩ (k_X2_readNumber l g A M a f L rs hR hL hch q (by omega) hat (0) (5)) (cwV 2 ht (gU uw_453 uw_455 uw_8 uw_41 uw_456) rfl rfl rfl (by decide +kernel) ⟨by decide, by decide⟩) hK hM hS (m_recv hK hM hR.2.2.1 hR.2.2.2.2.2 rfl) rfl hl.1 rfl (Nat.le_of_ble_eq_true rfl) dX2_readGauge_4 ⟨by decide, by decide⟩ (fun r1 M H locs hp hM hS => ?_)
  obtain ⟨e_r1, hR, hF1⟩ := hp
  have hF := hF.tr hF1
  refine rt_putD hx hb ht ui_X2 hown hK hM hS hR hF 4 (by decide) (by decide) (ht _ uw_260) dX2_readGauge_7 (fun M H locs hM hR hF hS => ?_)
  refine lv_aload_n hx hb dX2_readGauge_10 rfl (lv_at hl 0 rfl) ?_
  refine rt_getD hx hb ht ui_X2 hown hK hM hR 4 (by decide) (ht _ uw_260) dX2_readGauge_11 ?_
  refine lv_if_lt (tgt := 21) hx hb dX2_readGauge_14 (by decide) (fun c_14 => ?_) (fun c_14 => ?_)
  · refine lv_iconst (v := 0) hx hb dX2_readGauge_21 (by first | rfl | decide) ?_
    subst hQ
    exact m_zret hx hb hr (rfl) hlk hK hM hS dX2_readGauge_22 (⟨rg_neg e_r1 c_14, _, hR, hF, rfl, rfl, e_r1⟩)
  · refine lv_iconst (v := 1) hx hb dX2_readGauge_17 (by first | rfl | decide) ?_
    refine lv_goto (tgt := 22) hx hb dX2_readGauge_18 (by decide) ?_
    subst hQ
    exact m_zret hx hb hr (rfl) hlk hK hM hS dX2_readGauge_22 (⟨rg_pos e_r1 c_14, _, hR, hF, rfl, rfl, e_r1⟩)

set_option maxHeartbeats 4000000 in
set_option maxRecDepth 100000 in
/-- the amount and the hours of an order -/
theorem k_X2_readRain (l : Launch) (g : GG) (A : Nat → Prop) (M0 : MM) (a : Nat) (f : Nat → Int32) (L : Nat) (rs : Nat → Int32) (hR : RepT g A M0 a f (nI L) rs) (hL : L ≤ 60) (hch : ∀ i, i < 60 → narrow .char (.int (f i)) = .int (f i) ∧ fits .char (.int (f i)) = true) (q : Nat) (hq : q < 1000) (hat : rs 0 = nI q) (hq2 : q < 900) : Met l yX2_readRain (Uw yX2_readRain cX2_readRain 1 (Option.some ClassFile.FieldType.boolean)) (rmD 3) (PreM [.ref (a + 2)] g A M0) (PosI (fun r M1 => r = (if (raiC f L q).1 = true then 1 else 0) ∧ ∃ rs1, RepT g A M1 a (f) (nI L) (rs1) ∧ FrT a M0 M1 ∧ rs1 0 = nI (raiC f L q).2.1 ∧ rs1 1 = rs 1 ∧ ((raiC f L q).1 = true → rs1 2 = (raiC f L q).2.2.1 ∧ rs1 3 = (raiC f L q).2.2.2)) g A) 0 0 A := by
  refine mk_Met (own := RX2) rfl rfl (by decide) (Nat.le_of_ble_eq_true rfl) ?_
  intro p e s m below meth c ls aa Q haa hQ hx hb hr hlk hml hown hts hK hM hS hl hnm
  obtain ⟨M, hMM⟩ : ∃ M, M = M0 := ⟨_, rfl⟩
  rw [← hMM] at hM hR
  have ht : ∀ w ∈ lw_good, w.before _ s = true := fun w h => hts w (List.mem_cons_of_mem _ h)
  have hF : FrT a M0 M := by rw [hMM]; exact FrT.rf
  have hl : lv_has ls 1 [(0, .ref (a + 2))] := hl
  refine lv_aload_n hx hb dX2_readRain_0 rfl (lv_at hl 0 rfl) ?_
  refine lv_aload_n hx hb dX2_readRain_1 rfl (lv_at hl 0 rfl) ?_
  refine lv_iconst (v := 0) hx hb dX2_readRain_2 (by first | rfl | decide) ?_
  refine lv_bipush (v := 99) hx hb dX2_readRain_3 (by first | rfl | decide) ?_
  refine m_callI (As := [.int (0), .int (99)]) (rest := [.ref (a + 2)]) ⟨hx, hb, hml, hown, ht⟩ (k_X2_readNumber l g A M a f L rs hR hL hch q (by omega) hat (0) (99)) (cwV 2 ht (gU uw_453 uw_455 uw_8 uw_41 uw_456) rfl rfl rfl (by decide +kernel) ⟨by decide, by decide⟩) hK hM hS (m_recv hK hM hR.2.2.1 hR.2.2.2.2.2 rfl) rfl hl.1 rfl (Nat.le_of_ble_eq_true rfl) dX2_readRain_5 ⟨by decide, by decide⟩ (fun r1 M H locs hp hM hS => ?_)
  obtain ⟨e_r1, hR, hF1⟩ := hp
  have hF := hF.tr hF1
  refine rt_putD hx hb ht ui_X2 hown hK hM hS hR hF 2 (by decide) (by decide) (ht _ uw_256) dX2_readRain_8 (fun M H locs hM hR hF hS => ?_)
  refine lv_aload_n hx hb dX2_readRain_11 rfl (lv_at hl 0 rfl) ?_
  refine rt_getD hx hb ht ui_X2 hown hK hM hR 2 (by decide) (ht _ uw_256) dX2_readRain_12 ?_
  refine lv_if_lt (tgt := 34) hx hb dX2_readRain_15 (by decide) (fun c_15 => ?_) (fun c_15 => ?_)
  · refine lv_iconst (v := 0) hx hb dX2_readRain_34 (by first | rfl | decide) ?_
    subst hQ
    exact m_zret hx hb hr (rfl) hlk hK hM hS dX2_readRain_35 (by
        first
          | (rw [rai_1 e_r1 c_15]; exact ⟨rfl, _, hR, hF, rfl, rfl, fun z => by cases z⟩)
          | (rw [rai_2 c_31]; exact ⟨rfl, _, hR, hF, rfl, rfl, fun z => by cases z⟩))
  · refine lv_aload_n hx hb dX2_readRain_18 rfl (lv_at hl 0 rfl) ?_
    refine rt_getDp hx hb ht ui_X2 hown hK hM hR (ht _ uw_252) dX2_readRain_19 ?_
    refine lv_aload_n hx hb dX2_readRain_22 rfl (lv_at hl 0 rfl) ?_
    refine rt_getD hx hb ht ui_X2 hown hK hM hR 0 (by decide) (ht _ uw_253) dX2_readRain_23 ?_
    refine m_callRI (val := sgC f L (rnC f L q 0 99).2) (As := [.int ((va_up (va_up rs 0 (nI (rnC f L q (0) (99)).2)) 2 (r1)) 0)]) (rest := []) ⟨hx, hb, hml, hown, ht⟩ (k_X3_signAt l g A M a f L _ hR hL hch (rnC f L q 0 99).2 (by have := rnC_q f L q 0 99; omega)) (cwV 1 ht (gU uw_445 uw_446 uw_447 uw_40 uw_448) rfl rfl rfl (by decide +kernel) ⟨by decide, by decide⟩) hK hM hS (m_recv hK hM hR.1 hR.2.2.2.1 rfl) rfl hl.1 rfl (Nat.le_of_ble_eq_true rfl) dX2_readRain_26 ⟨by decide, by decide⟩ (fun H locs hM hS => ?_)
    refine lv_bipush (v := 104) hx hb dX2_readRain_29 (by first | rfl | decide) ?_
    refine lv_icmp_eq (tgt := 36) hx hb dX2_readRain_31 (by decide) (fun c_31 => ?_) (fun c_31 => ?_)
    · refine lv_aload_n hx hb dX2_readRain_36 rfl (lv_at hl 0 rfl) ?_
      refine lv_dup hx hb dX2_readRain_37 rfl ?_
      refine rt_getD hx hb ht ui_X2 hown hK hM hR 0 (by decide) (ht _ uw_253) dX2_readRain_38 ?_
      refine lv_iconst (v := 1) hx hb dX2_readRain_41 (by first | rfl | decide) ?_
      refine lv_iadd hx hb dX2_readRain_42 ?_
      refine rt_putD hx hb ht ui_X2 hown hK hM hS hR hF 0 (by decide) (by decide) (ht _ uw_253) dX2_readRain_43 (fun M H locs hM hR hF hS => ?_)
      refine lv_aload_n hx hb dX2_readRain_46 rfl (lv_at hl 0 rfl) ?_
      refine lv_aload_n hx hb dX2_readRain_47 rfl (lv_at hl 0 rfl) ?_
      refine lv_iconst (v := 1) hx hb dX2_readRain_48 (by first | rfl | decide) ?_
      refine lv_bipush (v := 24) hx hb dX2_readRain_49 (by first | rfl | decide) ?_
      refine m_callI (As := [.int (1), .int (24)]) (rest := [.ref (a + 2)]) ⟨hx, hb, hml, hown, ht⟩ (k_X2_readNumber l g A M a f L (va_up (va_up (va_up rs 0 (nI (rnC f L q (0) (99)).2)) 2 (r1)) 0 (((va_up (va_up rs 0 (nI (rnC f L q (0) (99)).2)) 2 (r1)) 0) + (1))) hR hL hch ((rnC f L q 0 99).2 + 1) (by have := rnC_q f L q 0 99; omega) (by show nI _ + 1 = _; exact nI_1 _) (1) (24)) (cwV 2 ht (gU uw_453 uw_455 uw_8 uw_41 uw_456) rfl rfl rfl (by decide +kernel) ⟨by decide, by decide⟩) hK hM hS (m_recv hK hM hR.2.2.1 hR.2.2.2.2.2 rfl) rfl hl.1 rfl (Nat.le_of_ble_eq_true rfl) dX2_readRain_51 ⟨by decide, by decide⟩ (fun r2 M H locs hp hM hS => ?_)
      obtain ⟨e_r2, hR, hF1⟩ := hp
      have hF := hF.tr hF1
      refine rt_putD hx hb ht ui_X2 hown hK hM hS hR hF 3 (by decide) (by decide) (ht _ uw_258) dX2_readRain_54 (fun M H locs hM hR hF hS => ?_)
      refine lv_aload_n hx hb dX2_readRain_57 rfl (lv_at hl 0 rfl) ?_
      refine rt_getD hx hb ht ui_X2 hown hK hM hR 3 (by decide) (ht _ uw_258) dX2_readRain_58 ?_
      refine lv_if_lt (tgt := 68) hx hb dX2_readRain_61 (by decide) (fun c_61 => ?_) (fun c_61 => ?_)
      · refine lv_iconst (v := 0) hx hb dX2_readRain_68 (by first | rfl | decide) ?_
        subst hQ
        exact m_zret hx hb hr (rfl) hlk hK hM hS dX2_readRain_69 (by
            rw [rai_3 e_r1 c_15 c_31]
            exact ⟨rd_neg e_r2 c_61, _, hR, hF, rfl, rfl, fun _ => ⟨e_r1, e_r2⟩⟩)
      · refine lv_iconst (v := 1) hx hb dX2_readRain_64 (by first | rfl | decide) ?_
        refine lv_goto (tgt := 69) hx hb dX2_readRain_65 (by decide) ?_
        subst hQ
        exact m_zret hx hb hr (rfl) hlk hK hM hS dX2_readRain_69 (by
            rw [rai_3 e_r1 c_15 c_31]
            exact ⟨rd_pos e_r2 c_61, _, hR, hF, rfl, rfl, fun _ => ⟨e_r1, e_r2⟩⟩)
    · refine lv_iconst (v := 0) hx hb dX2_readRain_34 (by first | rfl | decide) ?_
      subst hQ
      exact m_zret hx hb hr (rfl) hlk hK hM hS dX2_readRain_35 (by
          first
            | (rw [rai_1 e_r1 c_15]; exact ⟨rfl, _, hR, hF, rfl, rfl, fun z => by cases z⟩)
            | (rw [rai_2 c_31]; exact ⟨rfl, _, hR, hF, rfl, rfl, fun z => by cases z⟩))

set_option maxHeartbeats 4000000 in
set_option maxRecDepth 100000 in
/-- an order -/
theorem k_X2_readOrder (l : Launch) (g : GG) (A : Nat → Prop) (M0 : MM) (a : Nat) (f : Nat → Int32) (L : Nat) (rs : Nat → Int32) (hR : RepT g A M0 a f (nI L) rs) (hL : L ≤ 60) (hch : ∀ i, i < 60 → narrow .char (.int (f i)) = .int (f i) ∧ fits .char (.int (f i)) = true) (q : Nat) (hq : q < 1000) (hat : rs 0 = nI q) (hq2 : q < 800) : Met l yX2_readOrder (Uw yX2_readOrder cX2_readOrder 1 (Option.some ClassFile.FieldType.boolean)) (rmD 4) (PreM [.ref (a + 2)] g A M0) (PosI (fun r M1 => r = (if (ordC f L q).1 = true then 1 else 0) ∧ ∃ rs1, RepT g A M1 a (f) (nI L) (rs1) ∧ FrT a M0 M1 ∧ rs1 0 = nI (ordC f L q).2.1 ∧ ((ordC f L q).1 = true → rs1 1 = (ordC f L q).2.2.1 ∧ ((ordC f L q).2.2.1 = 114 → rs1 2 = (ordC f L q).2.2.2.1 ∧ rs1 3 = (ordC f L q).2.2.2.2) ∧ ((ordC f L q).2.2.1 = 115 → rs1 4 = (ordC f L q).2.2.2.1))) g A) 0 0 A := by
  refine mk_Met (own := RX2) rfl rfl (by decide) (Nat.le_of_ble_eq_true rfl) ?_
  intro p e s m below meth c ls aa Q haa hQ hx hb hr hlk hml hown hts hK hM hS hl hnm
  obtain ⟨M, hMM⟩ : ∃ M, M = M0 := ⟨_, rfl⟩
  rw [← hMM] at hM hR
  have ht : ∀ w ∈ lw_good, w.before _ s = true := fun w h => hts w (List.mem_cons_of_mem _ h)
  have hF : FrT a M0 M := by rw [hMM]; exact FrT.rf
  have hl : lv_has ls 1 [(0, .ref (a + 2))] := hl
  refine lv_aload_n hx hb dX2_readOrder_0 rfl (lv_at hl 0 rfl) ?_
  refine lv_aload_n hx hb dX2_readOrder_1 rfl (lv_at hl 0 rfl) ?_
  refine rt_getDp hx hb ht ui_X2 hown hK hM hR (ht _ uw_252) dX2_readOrder_2 ?_
  refine lv_aload_n hx hb dX2_readOrder_5 rfl (lv_at hl 0 rfl) ?_
  refine rt_getD hx hb ht ui_X2 hown hK hM hR 0 (by decide) (ht _ uw_253) dX2_readOrder_6 ?_
  refine m_callRI (val := sgC f L q) (As := [.int (rs 0)]) (rest := [.ref (a + 2)]) ⟨hx, hb, hml, hown, ht⟩ ((by have z := k_X3_signAt l g A M a f L rs hR hL hch q (by omega); rw [← hat] at z; exact z)) (cwV 1 ht (gU uw_445 uw_446 uw_447 uw_40 uw_448) rfl rfl rfl (by decide +kernel) ⟨by decide, by decide⟩) hK hM hS (m_recv hK hM hR.1 hR.2.2.2.1 rfl) rfl hl.1 rfl (Nat.le_of_ble_eq_true rfl) dX2_readOrder_9 ⟨by decide, by decide⟩ (fun H locs hM hS => ?_)
  refine rt_putDk hx hb ht ui_X2 hown hK hM hS hR hF (ht _ uw_254) (sg_chr hch hL q) dX2_readOrder_12 (fun M H locs hM hR hF hS => ?_)
  refine lv_aload_n hx hb dX2_readOrder_15 rfl (lv_at hl 0 rfl) ?_
  refine rt_getD hx hb ht ui_X2 hown hK hM hR 1 (by decide) (ht _ uw_254) dX2_readOrder_16 ?_
  refine lv_bipush (v := 114) hx hb dX2_readOrder_19 (by first | rfl | decide) ?_
  refine lv_icmp_eq (tgt := 35) hx hb dX2_readOrder_21 (by decide) (fun c_21 => ?_) (fun c_21 => ?_)
  · refine lv_aload_n hx hb dX2_readOrder_35 rfl (lv_at hl 0 rfl) ?_
    refine lv_dup hx hb dX2_readOrder_36 rfl ?_
    refine rt_getD hx hb ht ui_X2 hown hK hM hR 0 (by decide) (ht _ uw_253) dX2_readOrder_37 ?_
    refine lv_iconst (v := 1) hx hb dX2_readOrder_40 (by first | rfl | decide) ?_
    refine lv_iadd hx hb dX2_readOrder_41 ?_
    refine rt_putD hx hb ht ui_X2 hown hK hM hS hR hF 0 (by decide) (by decide) (ht _ uw_253) dX2_readOrder_42 (fun M H locs hM hR hF hS => ?_)
    refine lv_aload_n hx hb dX2_readOrder_45 rfl (lv_at hl 0 rfl) ?_
    refine rt_getD hx hb ht ui_X2 hown hK hM hR 1 (by decide) (ht _ uw_254) dX2_readOrder_46 ?_
    refine lv_bipush (v := 114) hx hb dX2_readOrder_49 (by first | rfl | decide) ?_
    refine lv_icmp_ne (tgt := 61) hx hb dX2_readOrder_51 (by decide) (fun c_51 => ?_) (fun c_51 => ?_)
    · refine lv_aload_n hx hb dX2_readOrder_61 rfl (lv_at hl 0 rfl) ?_
      refine m_callI (As := []) (rest := []) ⟨hx, hb, hml, hown, ht⟩ (k_X2_readGauge l g A M a f L (va_up (va_up rs 1 (sgC f L q)) 0 (((va_up rs 1 (sgC f L q)) 0) + (1))) hR hL hch (q + 1) (by omega) (by show rs 0 + 1 = _; rw [hat]; exact nI_1 q)) (cwV 0 ht (gU uw_462 uw_464 uw_9 uw_41 uw_465) rfl rfl rfl (by decide +kernel) ⟨by decide, by decide⟩) hK hM hS (m_recv hK hM hR.2.2.1 hR.2.2.2.2.2 rfl) rfl hl.1 rfl (Nat.le_of_ble_eq_true rfl) dX2_readOrder_62 ⟨by decide, by decide⟩ (fun r1 M H locs hp hM hS => ?_)
      obtain ⟨e_r1, hx2⟩ := hp
      subst hQ
      exact m_zret hx hb hr (by rw [e_r1]; exact nar_ite) hlk hK hM hS dX2_readOrder_65 (by
          obtain ⟨rs1, hR, hF1, k0, k1, k2⟩ := hx2
          have hF := hF.tr hF1
          have c115 : sgC f L q = 115 := by first | exact c_30 | exact absurd c_21 c_51
          rw [ord_s c115]
          exact ⟨e_r1.trans (dec_ite _), rs1, hR, hF, k0, fun z => ⟨k1.trans c115, fun z2 => absurd (show (115 : Int32) = 114 from z2) (by decide), fun _ => k2⟩⟩)
    · refine lv_aload_n hx hb dX2_readOrder_54 rfl (lv_at hl 0 rfl) ?_
      refine m_callI (As := []) (rest := []) ⟨hx, hb, hml, hown, ht⟩ (k_X2_readRain l g A M a f L (va_up (va_up rs 1 (sgC f L q)) 0 (((va_up rs 1 (sgC f L q)) 0) + (1))) hR hL hch (q + 1) (by omega) (by show rs 0 + 1 = _; rw [hat]; exact nI_1 q) (by omega)) (cwV 0 ht (gU uw_449 uw_451 uw_7 uw_41 uw_452) rfl rfl rfl (by decide +kernel) ⟨by decide, by decide⟩) hK hM hS (m_recv hK hM hR.2.2.1 hR.2.2.2.2.2 rfl) rfl hl.1 rfl (Nat.le_of_ble_eq_true rfl) dX2_readOrder_55 ⟨by decide, by decide⟩ (fun r1 M H locs hp hM hS => ?_)
      obtain ⟨e_r1, hx2⟩ := hp
      refine lv_goto (tgt := 65) hx hb dX2_readOrder_58 (by decide) ?_
      subst hQ
      exact m_zret hx hb hr (by rw [e_r1]; exact nar_ite) hlk hK hM hS dX2_readOrder_65 (by
          obtain ⟨rs1, hR, hF1, k0, k1, k2⟩ := hx2
          have hF := hF.tr hF1
          rw [ord_r c_51]
          exact ⟨e_r1, rs1, hR, hF, k0, fun z => ⟨k1.trans c_51, fun _ => k2 z, fun z2 => absurd (show (114 : Int32) = 115 from z2) (by decide)⟩⟩)
  · refine lv_aload_n hx hb dX2_readOrder_24 rfl (lv_at hl 0 rfl) ?_
    refine rt_getD hx hb ht ui_X2 hown hK hM hR 1 (by decide) (ht _ uw_254) dX2_readOrder_25 ?_
    refine lv_bipush (v := 115) hx hb dX2_readOrder_28 (by first | rfl | decide) ?_
    refine lv_icmp_eq (tgt := 35) hx hb dX2_readOrder_30 (by decide) (fun c_30 => ?_) (fun c_30 => ?_)
    · refine lv_aload_n hx hb dX2_readOrder_35 rfl (lv_at hl 0 rfl) ?_
      refine lv_dup hx hb dX2_readOrder_36 rfl ?_
      refine rt_getD hx hb ht ui_X2 hown hK hM hR 0 (by decide) (ht _ uw_253) dX2_readOrder_37 ?_
      refine lv_iconst (v := 1) hx hb dX2_readOrder_40 (by first | rfl | decide) ?_
      refine lv_iadd hx hb dX2_readOrder_41 ?_
      refine rt_putD hx hb ht ui_X2 hown hK hM hS hR hF 0 (by decide) (by decide) (ht _ uw_253) dX2_readOrder_42 (fun M H locs hM hR hF hS => ?_)
      refine lv_aload_n hx hb dX2_readOrder_45 rfl (lv_at hl 0 rfl) ?_
      refine rt_getD hx hb ht ui_X2 hown hK hM hR 1 (by decide) (ht _ uw_254) dX2_readOrder_46 ?_
      refine lv_bipush (v := 114) hx hb dX2_readOrder_49 (by first | rfl | decide) ?_
      refine lv_icmp_ne (tgt := 61) hx hb dX2_readOrder_51 (by decide) (fun c_51 => ?_) (fun c_51 => ?_)
      · refine lv_aload_n hx hb dX2_readOrder_61 rfl (lv_at hl 0 rfl) ?_
        refine m_callI (As := []) (rest := []) ⟨hx, hb, hml, hown, ht⟩ (k_X2_readGauge l g A M a f L (va_up (va_up rs 1 (sgC f L q)) 0 (((va_up rs 1 (sgC f L q)) 0) + (1))) hR hL hch (q + 1) (by omega) (by show rs 0 + 1 = _; rw [hat]; exact nI_1 q)) (cwV 0 ht (gU uw_462 uw_464 uw_9 uw_41 uw_465) rfl rfl rfl (by decide +kernel) ⟨by decide, by decide⟩) hK hM hS (m_recv hK hM hR.2.2.1 hR.2.2.2.2.2 rfl) rfl hl.1 rfl (Nat.le_of_ble_eq_true rfl) dX2_readOrder_62 ⟨by decide, by decide⟩ (fun r1 M H locs hp hM hS => ?_)
        obtain ⟨e_r1, hx2⟩ := hp
        subst hQ
        exact m_zret hx hb hr (by rw [e_r1]; exact nar_ite) hlk hK hM hS dX2_readOrder_65 (by
            obtain ⟨rs1, hR, hF1, k0, k1, k2⟩ := hx2
            have hF := hF.tr hF1
            have c115 : sgC f L q = 115 := by first | exact c_30 | exact absurd c_21 c_51
            rw [ord_s c115]
            exact ⟨e_r1.trans (dec_ite _), rs1, hR, hF, k0, fun z => ⟨k1.trans c115, fun z2 => absurd (show (115 : Int32) = 114 from z2) (by decide), fun _ => k2⟩⟩)
      · refine lv_aload_n hx hb dX2_readOrder_54 rfl (lv_at hl 0 rfl) ?_
        refine m_callI (As := []) (rest := []) ⟨hx, hb, hml, hown, ht⟩ (k_X2_readRain l g A M a f L (va_up (va_up rs 1 (sgC f L q)) 0 (((va_up rs 1 (sgC f L q)) 0) + (1))) hR hL hch (q + 1) (by omega) (by show rs 0 + 1 = _; rw [hat]; exact nI_1 q) (by omega)) (cwV 0 ht (gU uw_449 uw_451 uw_7 uw_41 uw_452) rfl rfl rfl (by decide +kernel) ⟨by decide, by decide⟩) hK hM hS (m_recv hK hM hR.2.2.1 hR.2.2.2.2.2 rfl) rfl hl.1 rfl (Nat.le_of_ble_eq_true rfl) dX2_readOrder_55 ⟨by decide, by decide⟩ (fun r1 M H locs hp hM hS => ?_)
        obtain ⟨e_r1, hx2⟩ := hp
        refine lv_goto (tgt := 65) hx hb dX2_readOrder_58 (by decide) ?_
        subst hQ
        exact m_zret hx hb hr (by rw [e_r1]; exact nar_ite) hlk hK hM hS dX2_readOrder_65 (by
            obtain ⟨rs1, hR, hF1, k0, k1, k2⟩ := hx2
            have hF := hF.tr hF1
            rw [ord_r c_51]
            exact ⟨e_r1, rs1, hR, hF, k0, fun z => ⟨k1.trans c_51, fun _ => k2 z, fun z2 => absurd (show (114 : Int32) = 115 from z2) (by decide)⟩⟩)
    · refine lv_iconst (v := 0) hx hb dX2_readOrder_33 (by first | rfl | decide) ?_
      subst hQ
      exact m_zret hx hb hr (rfl) hlk hK hM hS dX2_readOrder_34 (⟨by rw [ord_n c_21 c_30]; rfl, _, hR, hF, by rw [ord_n c_21 c_30]; exact hat, fun z => by rw [ord_n c_21 c_30] at z; cases z⟩)

set_option maxHeartbeats 4000000 in
set_option maxRecDepth 100000 in
/-- the fault of the pad -/
theorem k_X2_findFault (l : Launch) (g : GG) (A : Nat → Prop) (M0 : MM) (a : Nat) (f : Nat → Int32) (L : Nat) (rs : Nat → Int32) (hR : RepT g A M0 a f (nI L) rs) (hL : L ≤ 60) (hch : ∀ i, i < 60 → narrow .char (.int (f i)) = .int (f i) ∧ fits .char (.int (f i)) = true)  : Met l yX2_findFault (Uw yX2_findFault cX2_findFault 2 (Option.some ClassFile.FieldType.int)) (rmD 5) (PreM [.ref (a + 2)] g A M0) (PosI (fun r M1 => r = (match fauC f L 60 0 with | none => -1000006 | some q => nI q) ∧ ∃ rs1, RepT g A M1 a (f) (nI L) (rs1) ∧ FrT a M0 M1) g A) 0 0 A := by
  refine mk_Met (own := RX2) rfl rfl (by decide) (Nat.le_of_ble_eq_true rfl) ?_
  intro p e s m below meth c ls aa Q haa hQ hx hb hr hlk hml hown hts hK hM hS hl hnm
  obtain ⟨M, hMM⟩ : ∃ M, M = M0 := ⟨_, rfl⟩
  rw [← hMM] at hM hR
  have ht : ∀ w ∈ lw_good, w.before _ s = true := fun w h => hts w (List.mem_cons_of_mem _ h)
  have hF : FrT a M0 M := by rw [hMM]; exact FrT.rf
  have hl : lv_has ls 2 [(0, .ref (a + 2))] := hl
  obtain ⟨w0, hw0⟩ : ∃ w0, w0 = fauC f L 60 0 := ⟨_, rfl⟩
  rw [← hw0] at hQ
  refine lv_aload_n hx hb dX2_findFault_0 rfl (lv_at hl 0 rfl) ?_
  refine m_callV (As := []) (rest := []) ⟨hx, hb, hml, hown, ht⟩ (k_X2_goToStart l g A M a f L rs hR hL) (cwV 0 ht (gU uw_437 uw_438 uw_439 uw_41 uw_440) rfl rfl rfl (by decide +kernel) ⟨by decide, by decide⟩) hK hM hS (m_recv hK hM hR.2.2.1 hR.2.2.2.2.2 rfl) rfl hl.1 rfl (Nat.le_of_ble_eq_true rfl) dX2_findFault_1 ⟨by decide, by decide⟩ (fun M H locs hp hM hS => ?_)
  obtain ⟨hR, hF1⟩ := hp
  have hF := hF.tr hF1
  refine lv_iconst (v := 0) hx hb dX2_findFault_4 (by first | rfl | decide) ?_
  refine lv_istore_n (lv' := [(1, .int (0)), (0, .ref (a + 2))]) hx hb dX2_findFault_5 rfl hl (by decide) rfl (fun ls hl => ?_)
  have loop_6 : ∀ (z_6 : Nat) (o : Nat) (q : Nat) (rs : Nat → Int32) (M : MM) (H : Heap) (locs : List Loc) (ls : Array Slot), 60 - o < z_6 → o ≤ 60 → q ≤ 7 * o → rs 0 = nI q → fauC f L (60 - o) q = w0 → HD g A M H → RepT g A M a f (nI L) rs → FrT a M0 M → va_S A s.heap H locs → lv_has ls 2 [(1, .int (nI o)), (0, .ref (a + 2))] → W p l e (rmD 5) s m aa below meth c H locs 0 0 Q (F0 m 6 ls []) := by
    intro z_6
    induction z_6 with
    | zero => intro o q rs M H locs ls hz ho hq hat hw; exact absurd hz (Nat.not_lt_zero _)
    | succ z_6 ih_6 =>
    intro o q rs M H locs ls hz ho hq hat hw hM hR hF hS hl
    refine lv_iload_n hx hb dX2_findFault_6 rfl (lv_at hl 0 rfl) ?_
    refine lv_bipush (v := 60) hx hb dX2_findFault_7 (by first | rfl | decide) ?_
    refine lv_icmp_ge (tgt := 67) hx hb dX2_findFault_9 (by decide) (fun c_9 => ?_) (fun c_9 => ?_)
    · refine lv_aload_n hx hb dX2_findFault_67 rfl (lv_at hl 1 rfl) ?_
      refine rt_getD hx hb ht ui_X2 hown hK hM hR 0 (by decide) (ht _ uw_253) dX2_findFault_68 ?_
      subst hQ
      exact m_zret hx hb hr (rfl) hlk hK hM hS dX2_findFault_71 (by first | exact ⟨by rw [← hw, fau_0 (nI_le_of (by omega) (by decide) c_9) ho]; exact hat, _, hR, hF⟩ | exact ⟨by rw [← hw, fau_4 ho60 (by rw [e_r1] at c_16; exact ite_no c_16)]; exact k0, _, hR, hF⟩)
    · have ho60 : o < 60 := nI_lt_of (by omega) (by decide) c_9
      refine lv_aload_n hx hb dX2_findFault_12 rfl (lv_at hl 1 rfl) ?_
      refine m_callI (As := []) (rest := []) ⟨hx, hb, hml, hown, ht⟩ (k_X2_readOrder l g A M a f L rs hR hL hch q (by omega) hat (by omega)) (cwV 0 ht (gU uw_441 uw_442 uw_443 uw_41 uw_444) rfl rfl rfl (by decide +kernel) ⟨by decide, by decide⟩) hK hM hS (m_recv hK hM hR.2.2.1 hR.2.2.2.2.2 rfl) rfl hl.1 rfl (Nat.le_of_ble_eq_true rfl) dX2_findFault_13 ⟨by decide, by decide⟩ (fun r1 M H locs hp hM hS => ?_)
      obtain ⟨e_r1, rs1, hR, hF1, k0, -⟩ := hp
      have hF := hF.tr hF1
      refine lv_if_eq (tgt := 67) hx hb dX2_findFault_16 (by decide) (fun c_16 => ?_) (fun c_16 => ?_)
      · refine lv_aload_n hx hb dX2_findFault_67 rfl (lv_at hl 1 rfl) ?_
        refine rt_getD hx hb ht ui_X2 hown hK hM hR 0 (by decide) (ht _ uw_253) dX2_findFault_68 ?_
        subst hQ
        exact m_zret hx hb hr (rfl) hlk hK hM hS dX2_findFault_71 (by first | exact ⟨by rw [← hw, fau_0 (nI_le_of (by omega) (by decide) c_9) ho]; exact hat, _, hR, hF⟩ | exact ⟨by rw [← hw, fau_4 ho60 (by rw [e_r1] at c_16; exact ite_no c_16)]; exact k0, _, hR, hF⟩)
      · have ok : (ordC f L q).1 = true := by rw [e_r1] at c_16; exact ite_ok c_16
        have hq5 := ordC_q f L q
        refine lv_aload_n hx hb dX2_findFault_19 rfl (lv_at hl 1 rfl) ?_
        refine rt_getD hx hb ht ui_X2 hown hK hM hR 0 (by decide) (ht _ uw_253) dX2_findFault_20 ?_
        refine lv_aload_n hx hb dX2_findFault_23 rfl (lv_at hl 1 rfl) ?_
        refine rt_getDp hx hb ht ui_X2 hown hK hM hR (ht _ uw_252) dX2_findFault_24 ?_
        refine rt_getPl hx hb ht ui_X3 hown hK hM hR (ht _ uw_237) dX2_findFault_27 ?_
        refine lv_icmp_lt (tgt := 36) hx hb dX2_findFault_30 (by decide) (fun c_30 => ?_) (fun c_30 => ?_)
        · refine lv_aload_n hx hb dX2_findFault_36 rfl (lv_at hl 1 rfl) ?_
          refine rt_getDp hx hb ht ui_X2 hown hK hM hR (ht _ uw_252) dX2_findFault_37 ?_
          refine lv_aload_n hx hb dX2_findFault_40 rfl (lv_at hl 1 rfl) ?_
          refine rt_getD hx hb ht ui_X2 hown hK hM hR 0 (by decide) (ht _ uw_253) dX2_findFault_41 ?_
          refine m_callRI (val := sgC f L (ordC f L q).2.1) (As := [.int (rs1 0)]) (rest := []) ⟨hx, hb, hml, hown, ht⟩ ((by have z := k_X3_signAt l g A M a f L rs1 hR hL hch (ordC f L q).2.1 (by have := ordC_q f L q; omega); rw [← k0] at z; exact z)) (cwV 1 ht (gU uw_445 uw_446 uw_447 uw_40 uw_448) rfl rfl rfl (by decide +kernel) ⟨by decide, by decide⟩) hK hM hS (m_recv hK hM hR.1 hR.2.2.2.1 rfl) rfl hl.1 rfl (Nat.le_of_ble_eq_true rfl) dX2_findFault_44 ⟨by decide, by decide⟩ (fun H locs hM hS => ?_)
          refine lv_bipush (v := 59) hx hb dX2_findFault_47 (by first | rfl | decide) ?_
          refine lv_icmp_eq (tgt := 57) hx hb dX2_findFault_49 (by decide) (fun c_49 => ?_) (fun c_49 => ?_)
          · refine lv_aload_n hx hb dX2_findFault_57 rfl (lv_at hl 1 rfl) ?_
            refine m_callV (As := []) (rest := []) ⟨hx, hb, hml, hown, ht⟩ (k_X2_passSeparator l g A M a f L rs1 hR hL) (cwV 0 ht (gU uw_467 uw_468 uw_469 uw_41 uw_470) rfl rfl rfl (by decide +kernel) ⟨by decide, by decide⟩) hK hM hS (m_recv hK hM hR.2.2.1 hR.2.2.2.2.2 rfl) rfl hl.1 rfl (Nat.le_of_ble_eq_true rfl) dX2_findFault_58 ⟨by decide, by decide⟩ (fun M H locs hp hM hS => ?_)
            obtain ⟨hR, hF1⟩ := hp
            have hF := hF.tr hF1
            refine lv_iinc (v := nI (o + 1)) (lv' := [(1, .int (nI (o + 1))), (0, .ref (a + 2))]) hx hb dX2_findFault_61 hl (k := 0) rfl (nI_1 _) (by decide) rfl (fun ls hl => ?_)
            refine lv_goto (tgt := 6) hx hb dX2_findFault_64 (by decide) ?_
            exact ih_6 (o + 1) ((ordC f L q).2.1 + 1) _ _ _ _ _ (by omega) (by omega) (by have := ordC_q f L q; omega) (by show rs1 0 + 1 = _; rw [k0]; exact nI_1 _) (by rw [← hw]; exact fau_3 ho60 ok c_30 c_49) hM hR hF hS (lv_sub hl [0, 1] rfl)
          · refine lv_aload_n hx hb dX2_findFault_52 rfl (lv_at hl 1 rfl) ?_
            refine rt_getD hx hb ht ui_X2 hown hK hM hR 0 (by decide) (ht _ uw_253) dX2_findFault_53 ?_
            subst hQ
            exact m_zret hx hb hr (rfl) hlk hK hM hS dX2_findFault_56 (⟨by rw [← hw, fau_2 ho60 ok (nI_nlt_of (by omega) (by omega) (by rw [← k0]; exact c_30)) c_49]; exact k0, rs1, hR, hF⟩)
        · refine lv_ldc (v := (-1000006)) hx hb hown (ht _ uw_466) dX2_findFault_33 ?_
          subst hQ
          exact m_zret hx hb hr (rfl) hlk hK hM hS dX2_findFault_35 (⟨by rw [← hw, fau_1 ho60 ok (nI_le_of (by omega) (by omega) (by rw [← k0]; exact Int32.not_lt.mp c_30))], rs1, hR, hF⟩)
  exact loop_6 _ 0 0 (va_up rs 0 0) _ _ _ _ (Nat.lt_succ_self _) (by omega) (by omega) rfl hw0.symm hM hR hF hS (lv_sub hl [0, 1] rfl)

set_option maxHeartbeats 4000000 in
set_option maxRecDepth 100000 in
/-- whether a value lies in a range -/
theorem k_X7_within (l : Launch) (g : GG) (A : Nat → Prop) (M0 : MM) (x lo hi : Int32) : Met l yX7_within (Uw yX7_within cX7_within 3 (Option.some ClassFile.FieldType.boolean)) (rmD 0) (PreM [.int (x), .int (lo), .int (hi)] g A M0) (PosI (fun r M1 => r = (winC x lo hi) ∧ M1 = M0) g A) 0 0 A := by
  refine mk_Met (own := RX7) rfl rfl (by decide) (Nat.le_of_ble_eq_true rfl) ?_
  intro p e s m below meth c ls aa Q haa hQ hx hb hr hlk hml hown hts hK hM hS hl hnm
  obtain ⟨M, hMM⟩ : ∃ M, M = M0 := ⟨_, rfl⟩
  rw [← hMM] at hM
  have ht : ∀ w ∈ lw_good, w.before _ s = true := fun w h => hts w (List.mem_cons_of_mem _ h)
  have hl : lv_has ls 3 [(0, .int (x)), (1, .int (lo)), (2, .int (hi))] := hl
  refine lv_iload_n hx hb dX7_within_0 rfl (lv_at hl 0 rfl) ?_
  refine lv_iload_n hx hb dX7_within_1 rfl (lv_at hl 1 rfl) ?_
  refine lv_icmp_lt (tgt := 14) hx hb dX7_within_2 (by decide) (fun c_2 => ?_) (fun c_2 => ?_)
  · refine lv_iconst (v := 0) hx hb dX7_within_14 (by first | rfl | decide) ?_
    subst hQ
    exact m_zret hx hb hr (rfl) hlk hK hM hS dX7_within_15 (⟨by first | exact win_1 c_2 | exact win_2 c_7, hMM⟩)
  · refine lv_iload_n hx hb dX7_within_5 rfl (lv_at hl 0 rfl) ?_
    refine lv_iload_n hx hb dX7_within_6 rfl (lv_at hl 2 rfl) ?_
    refine lv_icmp_gt (tgt := 14) hx hb dX7_within_7 (by decide) (fun c_7 => ?_) (fun c_7 => ?_)
    · refine lv_iconst (v := 0) hx hb dX7_within_14 (by first | rfl | decide) ?_
      subst hQ
      exact m_zret hx hb hr (rfl) hlk hK hM hS dX7_within_15 (⟨by first | exact win_1 c_2 | exact win_2 c_7, hMM⟩)
    · refine lv_iconst (v := 1) hx hb dX7_within_10 (by first | rfl | decide) ?_
      refine lv_goto (tgt := 15) hx hb dX7_within_11 (by decide) ?_
      subst hQ
      exact m_zret hx hb hr (rfl) hlk hK hM hS dX7_within_15 (⟨win_y c_2 c_7, hMM⟩)

set_option maxHeartbeats 4000000 in
set_option maxRecDepth 100000 in
/-- the code at a place, counted from the last character -/
theorem k_X7_codeAt (l : Launch) (g : GG) (A : Nat → Prop) (M0 : MM) (x : Int64) (q : Int32) : Met l yX7_codeAt (Uw yX7_codeAt cX7_codeAt 3 (Option.some ClassFile.FieldType.int)) (rmD 0) (PreM [.long (x), .int (q)] g A M0) (PosI (fun r M1 => r = (codC x q) ∧ M1 = M0) g A) 0 0 A := by
  refine mk_Met (own := RX7) rfl rfl (by decide) (Nat.le_of_ble_eq_true rfl) ?_
  intro p e s m below meth c ls aa Q haa hQ hx hb hr hlk hml hown hts hK hM hS hl hnm
  obtain ⟨M, hMM⟩ : ∃ M, M = M0 := ⟨_, rfl⟩
  rw [← hMM] at hM
  have ht : ∀ w ∈ lw_good, w.before _ s = true := fun w h => hts w (List.mem_cons_of_mem _ h)
  have hl : lv_has ls 3 [(0, .long (x)), (2, .int (q))] := hl
  refine lv_lload_n hx hb dX7_codeAt_0 rfl (lv_at hl 0 rfl) ?_
  refine lv_bipush (v := 8) hx hb dX7_codeAt_1 (by first | rfl | decide) ?_
  refine lv_iload_n hx hb dX7_codeAt_3 rfl (lv_at hl 1 rfl) ?_
  refine lv_imul hx hb dX7_codeAt_4 ?_
  refine lv_lushr (v := ((x).toUInt64 >>> (((8) * (q)).toInt64.toUInt64 &&& Int64.toUInt64 63)).toInt64) hx hb dX7_codeAt_5 rfl ?_
  refine lv_l2i (v := (((x).toUInt64 >>> (((8) * (q)).toInt64.toUInt64 &&& Int64.toUInt64 63)).toInt64).toInt32) hx hb dX7_codeAt_6 rfl ?_
  refine lv_sipush (v := 255) hx hb dX7_codeAt_7 (by first | rfl | decide) ?_
  refine lv_iand hx hb dX7_codeAt_10 ?_
  subst hQ
  exact m_zret hx hb hr (rfl) hlk hK hM hS dX7_codeAt_11 (⟨rfl, hMM⟩)

set_option maxHeartbeats 4000000 in
set_option maxRecDepth 100000 in
/-- how many characters a number holds -/
theorem k_X7_charactersIn (l : Launch) (g : GG) (A : Nat → Prop) (M0 : MM) (x : Int64) : Met l yX7_charactersIn (Uw yX7_charactersIn cX7_charactersIn 4 (Option.some ClassFile.FieldType.int)) (rmD 1) (PreM [.long (x)] g A M0) (PosI (fun r M1 => r = (chC x) ∧ M1 = M0) g A) 0 0 A := by
  refine mk_Met (own := RX7) rfl rfl (by decide) (Nat.le_of_ble_eq_true rfl) ?_
  intro p e s m below meth c ls aa Q haa hQ hx hb hr hlk hml hown hts hK hM hS hl hnm
  obtain ⟨M, hMM⟩ : ∃ M, M = M0 := ⟨_, rfl⟩
  rw [← hMM] at hM
  have ht : ∀ w ∈ lw_good, w.before _ s = true := fun w h => hts w (List.mem_cons_of_mem _ h)
  have hl : lv_has ls 4 [(0, .long (x))] := hl
  obtain ⟨w0, hw0⟩ : ∃ w0, w0 = chW x 8 0 := ⟨_, rfl⟩
  refine lv_iconst (v := 0) hx hb dX7_charactersIn_0 (by first | rfl | decide) ?_
  refine lv_istore_n (lv' := [(2, .int (0)), (0, .long (x))]) hx hb dX7_charactersIn_1 rfl hl (by decide) rfl (fun ls hl => ?_)
  have loop_2 : ∀ (z_2 : Nat) (q : Nat) (H : Heap) (locs : List Loc) (ls : Array Slot), 8 - q < z_2 → q ≤ 8 → chW x (8 - q) q = w0 → HD g A M H → va_S A s.heap H locs → lv_has ls 4 [(2, .int (nI q)), (0, .long (x))] → W p l e (rmD 1) s m aa below meth c H locs 0 0 Q (F0 m 2 ls []) := by
    intro z_2
    induction z_2 with
    | zero => intro q H locs ls hz hq hw; exact absurd hz (Nat.not_lt_zero _)
    | succ z_2 ih_2 =>
    intro q H locs ls hz hq hw hM  hS hl
    refine lv_iload_n hx hb dX7_charactersIn_2 rfl (lv_at hl 0 rfl) ?_
    refine lv_bipush (v := 8) hx hb dX7_charactersIn_3 (by first | rfl | decide) ?_
    refine lv_icmp_ge (tgt := 39) hx hb dX7_charactersIn_5 (by decide) (fun c_5 => ?_) (fun c_5 => ?_)
    · have hwq : w0 = some q := by
        rw [← hw]
        first
          | exact chw_0 (nI_le_of (by omega) (by decide) c_5) hq
          | exact chw_1 (nI_lt_of (by omega) (by decide) c_5) c_13
      refine lv_iload_n hx hb dX7_charactersIn_39 rfl (lv_at hl 0 rfl) ?_
      refine lv_bipush (v := 8) hx hb dX7_charactersIn_40 (by first | rfl | decide) ?_
      refine lv_icmp_eq (tgt := 56) hx hb dX7_charactersIn_42 (by decide) (fun c_42 => ?_) (fun c_42 => ?_)
      · refine lv_iconst (v := 1) hx hb dX7_charactersIn_56 (by first | rfl | decide) ?_
        refine lv_goto (tgt := 61) hx hb dX7_charactersIn_57 (by decide) ?_
        refine lv_istore_n (lv' := [(3, .int (1)), (2, .int (nI q)), (0, .long (x))]) hx hb dX7_charactersIn_61 rfl hl (by decide) rfl (fun ls hl => ?_)
        refine lv_iload_n hx hb dX7_charactersIn_62 rfl (lv_at hl 0 rfl) ?_
        refine lv_if_eq (tgt := 70) hx hb dX7_charactersIn_63 (by decide) (fun c_63 => ?_) (fun c_63 => ?_)
        · refine lv_iconst (v := 0) hx hb dX7_charactersIn_70 (by first | rfl | decide) ?_
          subst hQ
          exact m_zret hx hb hr (rfl) hlk hK hM hS dX7_charactersIn_71 (⟨by first | exact chc_c (hw0.symm.trans hwq) c_42 c_53 | exact absurd (show (1 : Int32) = 0 from c_63) (by decide), hMM⟩)
        · refine lv_iload_n hx hb dX7_charactersIn_66 rfl (lv_at hl 1 rfl) ?_
          refine lv_goto (tgt := 71) hx hb dX7_charactersIn_67 (by decide) ?_
          subst hQ
          exact m_zret hx hb hr (rfl) hlk hK hM hS dX7_charactersIn_71 (⟨by first | exact chc_a (hw0.symm.trans hwq) c_42 | exact chc_b (hw0.symm.trans hwq) c_53 | exact absurd c_63 (by decide), hMM⟩)
      · refine lv_lload_n hx hb dX7_charactersIn_45 rfl (lv_at hl 1 rfl) ?_
        refine lv_bipush (v := 8) hx hb dX7_charactersIn_46 (by first | rfl | decide) ?_
        refine lv_iload_n hx hb dX7_charactersIn_48 rfl (lv_at hl 0 rfl) ?_
        refine lv_imul hx hb dX7_charactersIn_49 ?_
        refine lv_lushr (v := ((x).toUInt64 >>> (((8) * (nI q)).toInt64.toUInt64 &&& Int64.toUInt64 63)).toInt64) hx hb dX7_charactersIn_50 rfl ?_
        refine lv_lconst (v := 0) hx hb dX7_charactersIn_51 rfl ?_
        refine W.lcmp hx hb dX7_charactersIn_52 ?_
        refine lv_if_ne (tgt := 60) hx hb dX7_charactersIn_53 (by decide) (fun c_53 => ?_) (fun c_53 => ?_)
        · refine lv_iconst (v := 0) hx hb dX7_charactersIn_60 (by first | rfl | decide) ?_
          refine lv_istore_n (lv' := [(3, .int (0)), (2, .int (nI q)), (0, .long (x))]) hx hb dX7_charactersIn_61 rfl hl (by decide) rfl (fun ls hl => ?_)
          refine lv_iload_n hx hb dX7_charactersIn_62 rfl (lv_at hl 0 rfl) ?_
          refine lv_if_eq (tgt := 70) hx hb dX7_charactersIn_63 (by decide) (fun c_63 => ?_) (fun c_63 => ?_)
          · refine lv_iconst (v := 0) hx hb dX7_charactersIn_70 (by first | rfl | decide) ?_
            subst hQ
            exact m_zret hx hb hr (rfl) hlk hK hM hS dX7_charactersIn_71 (⟨by first | exact chc_c (hw0.symm.trans hwq) c_42 c_53 | exact absurd (show (1 : Int32) = 0 from c_63) (by decide), hMM⟩)
          · refine lv_iload_n hx hb dX7_charactersIn_66 rfl (lv_at hl 1 rfl) ?_
            refine lv_goto (tgt := 71) hx hb dX7_charactersIn_67 (by decide) ?_
            subst hQ
            exact m_zret hx hb hr (rfl) hlk hK hM hS dX7_charactersIn_71 (⟨by first | exact chc_a (hw0.symm.trans hwq) c_42 | exact chc_b (hw0.symm.trans hwq) c_53 | exact absurd c_63 (by decide), hMM⟩)
        · refine lv_iconst (v := 1) hx hb dX7_charactersIn_56 (by first | rfl | decide) ?_
          refine lv_goto (tgt := 61) hx hb dX7_charactersIn_57 (by decide) ?_
          refine lv_istore_n (lv' := [(3, .int (1)), (2, .int (nI q)), (0, .long (x))]) hx hb dX7_charactersIn_61 rfl hl (by decide) rfl (fun ls hl => ?_)
          refine lv_iload_n hx hb dX7_charactersIn_62 rfl (lv_at hl 0 rfl) ?_
          refine lv_if_eq (tgt := 70) hx hb dX7_charactersIn_63 (by decide) (fun c_63 => ?_) (fun c_63 => ?_)
          · refine lv_iconst (v := 0) hx hb dX7_charactersIn_70 (by first | rfl | decide) ?_
            subst hQ
            exact m_zret hx hb hr (rfl) hlk hK hM hS dX7_charactersIn_71 (⟨by first | exact chc_c (hw0.symm.trans hwq) c_42 c_53 | exact absurd (show (1 : Int32) = 0 from c_63) (by decide), hMM⟩)
          · refine lv_iload_n hx hb dX7_charactersIn_66 rfl (lv_at hl 1 rfl) ?_
            refine lv_goto (tgt := 71) hx hb dX7_charactersIn_67 (by decide) ?_
            subst hQ
            exact m_zret hx hb hr (rfl) hlk hK hM hS dX7_charactersIn_71 (⟨by first | exact chc_a (hw0.symm.trans hwq) c_42 | exact chc_b (hw0.symm.trans hwq) c_53 | exact absurd c_63 (by decide), hMM⟩)
    · have hq8 : q < 8 := nI_lt_of (by omega) (by decide) c_5
      refine lv_lload_n hx hb dX7_charactersIn_8 rfl (lv_at hl 1 rfl) ?_
      refine lv_iload_n hx hb dX7_charactersIn_9 rfl (lv_at hl 0 rfl) ?_
      refine m_callRSI (val := codC x (nI q)) (As := [.long (x), .int (nI q)]) (rest := []) ⟨hx, hb, hml, hown, ht⟩ (k_X7_codeAt l g A M x (nI q)) (cwS 2 ht (gUS uw_556 uw_557 uw_34 uw_558) rfl rfl rfl (by decide +kernel) ⟨by decide, by decide⟩) hK hM hS rfl hl.1 rfl (Nat.le_of_ble_eq_true rfl) dX7_charactersIn_10 ⟨by decide, by decide⟩ (fun H locs hM hS => ?_)
      refine lv_if_eq (tgt := 39) hx hb dX7_charactersIn_13 (by decide) (fun c_13 => ?_) (fun c_13 => ?_)
      · have hwq : w0 = some q := by
          rw [← hw]
          first
            | exact chw_0 (nI_le_of (by omega) (by decide) c_5) hq
            | exact chw_1 (nI_lt_of (by omega) (by decide) c_5) c_13
        refine lv_iload_n hx hb dX7_charactersIn_39 rfl (lv_at hl 0 rfl) ?_
        refine lv_bipush (v := 8) hx hb dX7_charactersIn_40 (by first | rfl | decide) ?_
        refine lv_icmp_eq (tgt := 56) hx hb dX7_charactersIn_42 (by decide) (fun c_42 => ?_) (fun c_42 => ?_)
        · refine lv_iconst (v := 1) hx hb dX7_charactersIn_56 (by first | rfl | decide) ?_
          refine lv_goto (tgt := 61) hx hb dX7_charactersIn_57 (by decide) ?_
          refine lv_istore_n (lv' := [(3, .int (1)), (2, .int (nI q)), (0, .long (x))]) hx hb dX7_charactersIn_61 rfl hl (by decide) rfl (fun ls hl => ?_)
          refine lv_iload_n hx hb dX7_charactersIn_62 rfl (lv_at hl 0 rfl) ?_
          refine lv_if_eq (tgt := 70) hx hb dX7_charactersIn_63 (by decide) (fun c_63 => ?_) (fun c_63 => ?_)
          · refine lv_iconst (v := 0) hx hb dX7_charactersIn_70 (by first | rfl | decide) ?_
            subst hQ
            exact m_zret hx hb hr (rfl) hlk hK hM hS dX7_charactersIn_71 (⟨by first | exact chc_c (hw0.symm.trans hwq) c_42 c_53 | exact absurd (show (1 : Int32) = 0 from c_63) (by decide), hMM⟩)
          · refine lv_iload_n hx hb dX7_charactersIn_66 rfl (lv_at hl 1 rfl) ?_
            refine lv_goto (tgt := 71) hx hb dX7_charactersIn_67 (by decide) ?_
            subst hQ
            exact m_zret hx hb hr (rfl) hlk hK hM hS dX7_charactersIn_71 (⟨by first | exact chc_a (hw0.symm.trans hwq) c_42 | exact chc_b (hw0.symm.trans hwq) c_53 | exact absurd c_63 (by decide), hMM⟩)
        · refine lv_lload_n hx hb dX7_charactersIn_45 rfl (lv_at hl 1 rfl) ?_
          refine lv_bipush (v := 8) hx hb dX7_charactersIn_46 (by first | rfl | decide) ?_
          refine lv_iload_n hx hb dX7_charactersIn_48 rfl (lv_at hl 0 rfl) ?_
          refine lv_imul hx hb dX7_charactersIn_49 ?_
          refine lv_lushr (v := ((x).toUInt64 >>> (((8) * (nI q)).toInt64.toUInt64 &&& Int64.toUInt64 63)).toInt64) hx hb dX7_charactersIn_50 rfl ?_
          refine lv_lconst (v := 0) hx hb dX7_charactersIn_51 rfl ?_
          refine W.lcmp hx hb dX7_charactersIn_52 ?_
          refine lv_if_ne (tgt := 60) hx hb dX7_charactersIn_53 (by decide) (fun c_53 => ?_) (fun c_53 => ?_)
          · refine lv_iconst (v := 0) hx hb dX7_charactersIn_60 (by first | rfl | decide) ?_
            refine lv_istore_n (lv' := [(3, .int (0)), (2, .int (nI q)), (0, .long (x))]) hx hb dX7_charactersIn_61 rfl hl (by decide) rfl (fun ls hl => ?_)
            refine lv_iload_n hx hb dX7_charactersIn_62 rfl (lv_at hl 0 rfl) ?_
            refine lv_if_eq (tgt := 70) hx hb dX7_charactersIn_63 (by decide) (fun c_63 => ?_) (fun c_63 => ?_)
            · refine lv_iconst (v := 0) hx hb dX7_charactersIn_70 (by first | rfl | decide) ?_
              subst hQ
              exact m_zret hx hb hr (rfl) hlk hK hM hS dX7_charactersIn_71 (⟨by first | exact chc_c (hw0.symm.trans hwq) c_42 c_53 | exact absurd (show (1 : Int32) = 0 from c_63) (by decide), hMM⟩)
            · refine lv_iload_n hx hb dX7_charactersIn_66 rfl (lv_at hl 1 rfl) ?_
              refine lv_goto (tgt := 71) hx hb dX7_charactersIn_67 (by decide) ?_
              subst hQ
              exact m_zret hx hb hr (rfl) hlk hK hM hS dX7_charactersIn_71 (⟨by first | exact chc_a (hw0.symm.trans hwq) c_42 | exact chc_b (hw0.symm.trans hwq) c_53 | exact absurd c_63 (by decide), hMM⟩)
          · refine lv_iconst (v := 1) hx hb dX7_charactersIn_56 (by first | rfl | decide) ?_
            refine lv_goto (tgt := 61) hx hb dX7_charactersIn_57 (by decide) ?_
            refine lv_istore_n (lv' := [(3, .int (1)), (2, .int (nI q)), (0, .long (x))]) hx hb dX7_charactersIn_61 rfl hl (by decide) rfl (fun ls hl => ?_)
            refine lv_iload_n hx hb dX7_charactersIn_62 rfl (lv_at hl 0 rfl) ?_
            refine lv_if_eq (tgt := 70) hx hb dX7_charactersIn_63 (by decide) (fun c_63 => ?_) (fun c_63 => ?_)
            · refine lv_iconst (v := 0) hx hb dX7_charactersIn_70 (by first | rfl | decide) ?_
              subst hQ
              exact m_zret hx hb hr (rfl) hlk hK hM hS dX7_charactersIn_71 (⟨by first | exact chc_c (hw0.symm.trans hwq) c_42 c_53 | exact absurd (show (1 : Int32) = 0 from c_63) (by decide), hMM⟩)
            · refine lv_iload_n hx hb dX7_charactersIn_66 rfl (lv_at hl 1 rfl) ?_
              refine lv_goto (tgt := 71) hx hb dX7_charactersIn_67 (by decide) ?_
              subst hQ
              exact m_zret hx hb hr (rfl) hlk hK hM hS dX7_charactersIn_71 (⟨by first | exact chc_a (hw0.symm.trans hwq) c_42 | exact chc_b (hw0.symm.trans hwq) c_53 | exact absurd c_63 (by decide), hMM⟩)
      · refine lv_lload_n hx hb dX7_charactersIn_16 rfl (lv_at hl 1 rfl) ?_
        refine lv_iload_n hx hb dX7_charactersIn_17 rfl (lv_at hl 0 rfl) ?_
        refine m_callRSI (val := codC x (nI q)) (As := [.long (x), .int (nI q)]) (rest := []) ⟨hx, hb, hml, hown, ht⟩ (k_X7_codeAt l g A M x (nI q)) (cwS 2 ht (gUS uw_556 uw_557 uw_34 uw_558) rfl rfl rfl (by decide +kernel) ⟨by decide, by decide⟩) hK hM hS rfl hl.1 rfl (Nat.le_of_ble_eq_true rfl) dX7_charactersIn_18 ⟨by decide, by decide⟩ (fun H locs hM hS => ?_)
        refine lv_bipush (v := 33) hx hb dX7_charactersIn_21 (by first | rfl | decide) ?_
        refine lv_bipush (v := 126) hx hb dX7_charactersIn_23 (by first | rfl | decide) ?_
        refine m_callRSI (val := winC (codC x (nI q)) (33) (126)) (As := [.int (codC x (nI q)), .int (33), .int (126)]) (rest := []) ⟨hx, hb, hml, hown, ht⟩ (k_X7_within l g A M (codC x (nI q)) (33) (126)) (cwS 3 ht (gUS uw_301 uw_302 uw_34 uw_303) rfl rfl rfl (by decide +kernel) ⟨by decide, by decide⟩) hK hM hS rfl hl.1 rfl (Nat.le_of_ble_eq_true rfl) dX7_charactersIn_25 ⟨by decide, by decide⟩ (fun H locs hM hS => ?_)
        refine lv_if_ne (tgt := 33) hx hb dX7_charactersIn_28 (by decide) (fun c_28 => ?_) (fun c_28 => ?_)
        · refine lv_iinc (v := nI (q + 1)) (lv' := [(2, .int (nI (q + 1))), (0, .long (x))]) hx hb dX7_charactersIn_33 hl (k := 0) rfl (nI_1 _) (by decide) rfl (fun ls hl => ?_)
          refine lv_goto (tgt := 2) hx hb dX7_charactersIn_36 (by decide) ?_
          exact ih_2 (q + 1) _ _ _ (by omega) (by omega) (by rw [← hw]; exact chw_3 hq8 c_13 c_28) hM hS (lv_sub hl [0, 1] rfl)
        · refine lv_iconst (v := 0) hx hb dX7_charactersIn_31 (by first | rfl | decide) ?_
          subst hQ
          exact m_zret hx hb hr (rfl) hlk hK hM hS dX7_charactersIn_32 (⟨chc_n (by rw [← hw0, ← hw]; exact chw_2 hq8 c_13 c_28), hMM⟩)
  exact loop_2 _ 0 _ _ _ (Nat.lt_succ_self _) (by omega) hw0.symm hM hS (lv_sub hl [0, 1] rfl)
