theorem nar_ite {P : Prop} [Decidable P] : narrow .boolean (.int (if P then (1 : Int32) else 0)) = .int (if P then (1 : Int32) else 0) := by
  by_cases h : P
  · rw [if_pos h]; rfl
  · rw [if_neg h]; rfl
theorem rs_same {rs : Nat → Int32} {q : Nat} (h : rs 0 = nI q) : va_up rs 0 (nI q) = rs := by
  funext j
  unfold va_up
  by_cases hj : j = 0
  · rw [if_pos hj, hj, h]
  · rw [if_neg hj]
theorem rs_one {rs : Nat → Int32} {q : Nat} (h : rs 0 = nI q) : va_up rs 0 (nI (q + 1)) = va_up rs 0 (rs 0 + 1) := by rw [h, nI_1]
theorem rs_two {rs : Nat → Int32} {q : Nat} (h : rs 0 = nI q) : va_up rs 0 (nI (q + 2)) = va_up (va_up rs 0 (rs 0 + 1)) 0 (va_up rs 0 (rs 0 + 1) 0 + 1) := by
  rw [va_upup, va_up_self, h, nI_1, nI_1]
section
variable {g : GG} {A : Nat → Prop} {M0 M1 : MM} {a : Nat} {f : Nat → Int32} {len : Int32} {rs : Nat → Int32} {L q : Nat} {lo hi : Int32}
theorem rn_end0 {r : Int32} {q' : Nat} (e : rnC f L q lo hi = (r, q')) (hR : RepT g A M1 a f len (va_up rs 0 (nI q'))) (hF : FrT a M0 M1) : r = (rnC f L q lo hi).1 ∧ RepT g A M1 a f len (va_up rs 0 (nI (rnC f L q lo hi).2)) ∧ FrT a M0 M1 := by
  rw [e]
  exact ⟨rfl, hR, hF⟩
theorem rn_a (c : dgC f L q < lo) : rnC f L q lo hi = (-1, q) := if_pos (Or.inl c)
theorem rn_b (c : ¬ dgC f L q ≤ hi) : rnC f L q lo hi = (-1, q) := if_pos (Or.inr (Int32.not_le.mp c))
theorem rn_c (c1 : ¬ dgC f L q < lo) (c2 : dgC f L q ≤ hi) (c3 : dgC f L q = 0) : rnC f L q lo hi = (dgC f L q, q + 1) := (if_neg (fun z => z.elim c1 (Int32.not_lt.mpr c2))).trans (if_pos (Or.inl c3))
theorem rn_d (c1 : ¬ dgC f L q < lo) (c2 : dgC f L q ≤ hi) (c4 : ¬ 0 ≤ dgC f L (q + 1)) : rnC f L q lo hi = (dgC f L q, q + 1) := (if_neg (fun z => z.elim c1 (Int32.not_lt.mpr c2))).trans (if_pos (Or.inr (Int32.not_le.mp c4)))
theorem rn_e (c1 : ¬ dgC f L q < lo) (c2 : dgC f L q ≤ hi) (c3 : ¬ dgC f L q = 0) (c4 : 0 ≤ dgC f L (q + 1)) (c5 : ¬ 10 * dgC f L q + dgC f L (q + 1) ≤ hi) : rnC f L q lo hi = (-1, q + 1) := (if_neg (fun z => z.elim c1 (Int32.not_lt.mpr c2))).trans ((if_neg (fun z => z.elim c3 (Int32.not_lt.mpr c4))).trans (if_pos (Int32.not_le.mp c5)))
theorem rn_f (c1 : ¬ dgC f L q < lo) (c2 : dgC f L q ≤ hi) (c3 : ¬ dgC f L q = 0) (c4 : 0 ≤ dgC f L (q + 1)) (c5 : 10 * dgC f L q + dgC f L (q + 1) ≤ hi) : rnC f L q lo hi = (10 * dgC f L q + dgC f L (q + 1), q + 2) := (if_neg (fun z => z.elim c1 (Int32.not_lt.mpr c2))).trans ((if_neg (fun z => z.elim c3 (Int32.not_lt.mpr c4))).trans (if_neg (Int32.not_lt.mpr c5)))
end
theorem win_y {x lo hi : Int32} (c : ¬ x < lo) (c2 : ¬ hi < x) : 1 = winC x lo hi := (if_pos (⟨Int32.not_lt.mp c, Int32.not_lt.mp c2⟩ : lo ≤ x ∧ x ≤ hi)).symm
theorem win_1 {x lo hi : Int32} (c : x < lo) : 0 = winC x lo hi := (if_neg (fun z : lo ≤ x ∧ x ≤ hi => absurd z.1 (Int32.not_le.mpr c))).symm
theorem win_2 {x lo hi : Int32} (c : hi < x) : 0 = winC x lo hi := (if_neg (fun z : lo ≤ x ∧ x ≤ hi => absurd z.2 (Int32.not_le.mpr c))).symm
section
variable {x : Int64} {q : Nat}
theorem chw_0 (h : 8 ≤ q) (h2 : q ≤ 8) : chW x (8 - q) q = some q := by
  rw [show 8 - q = 0 by omega]
  rfl
theorem chw_s (h : q < 8) : chW x (8 - q) q = if codC x (nI q) = 0 then some q else if winC (codC x (nI q)) 33 126 = 0 then none else chW x (8 - (q + 1)) (q + 1) := by
  rw [show 8 - q = (8 - (q + 1)) + 1 by omega]
  rfl
theorem chw_1 (h : q < 8) (c : codC x (nI q) = 0) : chW x (8 - q) q = some q := by rw [chw_s h, if_pos c]
theorem chw_2 (h : q < 8) (c : ¬ codC x (nI q) = 0) (c2 : winC (codC x (nI q)) 33 126 = 0) : chW x (8 - q) q = none := by rw [chw_s h, if_neg c, if_pos c2]
theorem chw_3 (h : q < 8) (c : ¬ codC x (nI q) = 0) (c2 : ¬ winC (codC x (nI q)) 33 126 = 0) : chW x (8 - (q + 1)) (q + 1) = chW x (8 - q) q := by rw [chw_s h, if_neg c, if_neg c2]
theorem chc_n (h : chW x 8 0 = none) : 0 = chC x := by unfold chC; rw [h]
theorem chc_s (h : chW x 8 0 = some q) : chC x = if q = 8 ∨ shrC x (nI q) = 0 then nI q else 0 := by unfold chC; rw [h]
theorem chc_q (h : chW x 8 0 = some q) : q ≤ 8 := by have := chW_le x 8 0 q h; omega
theorem chc_a (h : chW x 8 0 = some q) (c : nI q = 8) : nI q = chC x := by
  rw [chc_s h, if_pos (Or.inl ?_)]
  have := chc_q h
  exact (nI_eq (by omega) (by decide)).mp c
theorem cmp0 {a : Int64} (c : lg_cmp a 0 = 0) : a = 0 := (lg_cmp_eq a 0).mp c
theorem chc_b (h : chW x 8 0 = some q) (c : lg_cmp (shrC x (nI q)) 0 = 0) : nI q = chC x := by rw [chc_s h, if_pos (Or.inr (cmp0 c))]
theorem chc_c (h : chW x 8 0 = some q) (c1 : ¬ nI q = 8) (c2 : ¬ lg_cmp (shrC x (nI q)) 0 = 0) : 0 = chC x := by
  rw [chc_s h, if_neg]
  rintro (z | z)
  · exact c1 (by rw [z]; rfl)
  · exact c2 ((lg_cmp_eq _ 0).mpr z)
end
theorem ite_ok {o : Bool} (c : ¬ (if o = true then (1 : Int32) else 0) = 0) : o = true := Classical.byContradiction (fun h => c (if_neg h))
theorem ite_no {o : Bool} (c : (if o = true then (1 : Int32) else 0) = 0) : ¬ o = true := ite10.mp c
theorem dec_ite (x : Int32) : (if 0 ≤ x then (1 : Int32) else 0) = if decide (0 ≤ x) = true then 1 else 0 := by
  by_cases h : 0 ≤ x
  · rw [if_pos h, if_pos (decide_eq_true h)]
  · rw [if_neg h, if_neg (fun q => h (of_decide_eq_true q))]
theorem rg_neg {r1 x : Int32} (e : r1 = x) (c : r1 < 0) : (0 : Int32) = if 0 ≤ x then 1 else 0 := by rw [← e, if_neg (Int32.not_le.mpr c)]
theorem rg_pos {r1 x : Int32} (e : r1 = x) (c : ¬ r1 < 0) : (1 : Int32) = if 0 ≤ x then 1 else 0 := by rw [← e, if_pos (Int32.not_lt.mp c)]
theorem rd_neg {r1 x : Int32} (e : r1 = x) (c : r1 < 0) : (0 : Int32) = if decide (0 ≤ x) = true then 1 else 0 := (rg_neg e c).trans (dec_ite x)
theorem rd_pos {r1 x : Int32} (e : r1 = x) (c : ¬ r1 < 0) : (1 : Int32) = if decide (0 ≤ x) = true then 1 else 0 := (rg_pos e c).trans (dec_ite x)
theorem nI_nlt_of {a b : Nat} (ha : a < 2 ^ 31) (hb : b < 2 ^ 31) (h : nI a < nI b) : a < b := (nI_ltI ha hb).mp h
section
variable {f : Nat → Int32} {L q : Nat}
theorem dg_a (c : sgC f L q < 48) : -1 = dgC f L q := (if_neg (fun z : 48 ≤ sgC f L q ∧ sgC f L q ≤ 57 => absurd z.1 (Int32.not_le.mpr c))).symm
theorem dg_b (c : 57 < sgC f L q) : -1 = dgC f L q := (if_neg (fun z : 48 ≤ sgC f L q ∧ sgC f L q ≤ 57 => absurd z.2 (Int32.not_le.mpr c))).symm
theorem dg_c (c : ¬ sgC f L q < 48) (c2 : ¬ 57 < sgC f L q) : sgC f L q - 48 = dgC f L q := (if_pos (⟨Int32.not_lt.mp c, Int32.not_lt.mp c2⟩ : 48 ≤ sgC f L q ∧ sgC f L q ≤ 57)).symm
theorem rai_1 {r1 : Int32} (e : r1 = (rnC f L q 0 99).1) (c : r1 < 0) : raiC f L q = (false, (rnC f L q 0 99).2, 0, 0) := if_pos (Or.inl (by rw [← e]; exact c))
theorem rai_2 (c : ¬ sgC f L (rnC f L q 0 99).2 = 104) : raiC f L q = (false, (rnC f L q 0 99).2, 0, 0) := if_pos (Or.inr c)
theorem rai_3 {r1 : Int32} (e : r1 = (rnC f L q 0 99).1) (c : ¬ r1 < 0) (c2 : sgC f L (rnC f L q 0 99).2 = 104) : raiC f L q = (decide (0 ≤ (rnC f L ((rnC f L q 0 99).2 + 1) 1 24).1), (rnC f L ((rnC f L q 0 99).2 + 1) 1 24).2, (rnC f L q 0 99).1, (rnC f L ((rnC f L q 0 99).2 + 1) 1 24).1) := if_neg (fun z => z.elim (by rw [← e]; exact c) (fun z => z c2))
theorem ord_n (c : ¬ sgC f L q = 114) (c2 : ¬ sgC f L q = 115) : ordC f L q = (false, q, 0, 0, 0) := (if_neg c).trans (if_neg c2)
theorem ord_r (c : sgC f L q = 114) : ordC f L q = ((raiC f L (q + 1)).1, (raiC f L (q + 1)).2.1, 114, (raiC f L (q + 1)).2.2.1, (raiC f L (q + 1)).2.2.2) := if_pos c
theorem ord_s (c : sgC f L q = 115) : ordC f L q = (decide (0 ≤ (rnC f L (q + 1) 0 5).1), (rnC f L (q + 1) 0 5).2, 115, (rnC f L (q + 1) 0 5).1, 0) := (if_neg (by rw [c]; decide)).trans (if_pos c)
theorem raiC_q (f : Nat → Int32) (L q : Nat) : (raiC f L q).2.1 ≤ q + 5 := by
  have h1 := rnC_q f L q 0 99
  have h2 := rnC_q f L ((rnC f L q 0 99).2 + 1) 1 24
  unfold raiC
  split
  · show (rnC f L q 0 99).2 ≤ _; omega
  · show (rnC f L ((rnC f L q 0 99).2 + 1) 1 24).2 ≤ _; omega
theorem ordC_q (f : Nat → Int32) (L q : Nat) : (ordC f L q).2.1 ≤ q + 6 := by
  unfold ordC
  split
  · have := raiC_q f L (q + 1); show (raiC f L (q + 1)).2.1 ≤ _; omega
  · split
    · have := rnC_q f L (q + 1) 0 5; show (rnC f L (q + 1) 0 5).2 ≤ _; omega
    · show q ≤ _; omega
theorem sg_chr (hch : ∀ i, i < 60 → narrow .char (.int (f i)) = .int (f i) ∧ fits .char (.int (f i)) = true) (hL : L ≤ 60) (q : Nat) : narrow .char (.int (sgC f L q)) = .int (sgC f L q) ∧ fits .char (.int (sgC f L q)) = true := by
  unfold sgC
  split
  · exact hch q (by omega)
  · exact ⟨rfl, rfl⟩
theorem fau_s {o : Nat} (ho : o < 60) : fauC f L (60 - o) q = if (ordC f L q).1 = true then (if L ≤ (ordC f L q).2.1 then none else if sgC f L (ordC f L q).2.1 = 59 then fauC f L (60 - (o + 1)) ((ordC f L q).2.1 + 1) else some (ordC f L q).2.1) else some (ordC f L q).2.1 := by
  rw [show 60 - o = (60 - (o + 1)) + 1 by omega]
  rfl
theorem fau_0 {o : Nat} (h : 60 ≤ o) (h2 : o ≤ 60) : fauC f L (60 - o) q = some q := by
  rw [show 60 - o = 0 by omega]
  rfl
theorem fau_1 {o : Nat} (ho : o < 60) (ok : (ordC f L q).1 = true) (h : L ≤ (ordC f L q).2.1) : fauC f L (60 - o) q = none := by rw [fau_s ho, if_pos ok, if_pos h]
theorem fau_2 {o : Nat} (ho : o < 60) (ok : (ordC f L q).1 = true) (h : (ordC f L q).2.1 < L) (h2 : ¬ sgC f L (ordC f L q).2.1 = 59) : fauC f L (60 - o) q = some (ordC f L q).2.1 := by rw [fau_s ho, if_pos ok, if_neg (by omega), if_neg h2]
theorem fau_4 {o : Nat} (ho : o < 60) (ok : ¬ (ordC f L q).1 = true) : fauC f L (60 - o) q = some (ordC f L q).2.1 := by rw [fau_s ho, if_neg ok]
theorem fau_3 {o : Nat} (ho : o < 60) (ok : (ordC f L q).1 = true) {r : Int32} (h : r < nI L) (h2 : sgC f L (ordC f L q).2.1 = 59) : fauC f L (60 - (o + 1)) ((ordC f L q).2.1 + 1) = fauC f L (60 - o) q := by
  have hlt : (ordC f L q).2.1 < L := by
    apply Classical.byContradiction
    intro hn
    unfold sgC at h2
    rw [if_neg hn] at h2
    revert h2; decide
  rw [fau_s ho, if_pos ok, if_neg (by omega), if_pos h2]
end
set_option maxHeartbeats 4000000 in
set_option maxRecDepth 100000 in
/-- whether a value lies in a range -/
theorem k_X7_within (l : Launch) (g : GG) (A : Nat → Prop) (M0 : MM) (x lo hi : Int32) : Met l yX7_within (Uw yX7_within cX7_within 3 (Option.some ClassFile.FieldType.boolean)) (rmD 0) (PreM [.int (x), .int (lo), .int (hi)] g A M0) (PosI (fun r M1 => r = (winC x lo hi) ∧ M1 = M0) g A) 0 0 A := by
  refine mk_Met (own := RX7) rfl rfl (by decide) (Nat.le_of_ble_eq_true rfl) ?_
  intro p e s m below meth c ls aa Q haa hQ hx hb hr hlk hml hown hts hK hM hS hl hnm
  obtain ⟨M, hMM⟩ : ∃ M, M = M0 := ⟨_, rfl⟩
  rw [← hMM] at hM
  have ht : ∀ w ∈ lw_good, w.before _ s = true := fun w h => hts w (List.mem_cons_of_mem _ h)
  have hl : lv_has ls 3 [(0, .int (x)), (1, .int (lo)), (2, .int (hi))] := hl
  refine lv_iload_n hx hb dX7_within_0 rfl (lv_at hl 0 rfl) ?_
  refine lv_iload_n hx hb dX7_within_1 rfl (lv_at hl 1 rfl) ?_
  refine lv_icmp_lt (tgt := 14) hx hb dX7_within_2 (by decide) (fun c_2 => ?_) (fun c_2 => ?_)
  · refine lv_iconst (v := 0) hx hb dX7_within_14 (by first | rfl | decide) ?_
    subst hQ
    exact m_zret hx hb hr (rfl) hlk hK hM hS dX7_within_15 (⟨by first | exact win_1 c_2 | exact win_2 c_7, hMM⟩)
  · refine lv_iload_n hx hb dX7_within_5 rfl (lv_at hl 0 rfl) ?_
    refine lv_iload_n hx hb dX7_within_6 rfl (lv_at hl 2 rfl) ?_
    refine lv_icmp_gt (tgt := 14) hx hb dX7_within_7 (by decide) (fun c_7 => ?_) (fun c_7 => ?_)
    · refine lv_iconst (v := 0) hx hb dX7_within_14 (by first | rfl | decide) ?_
      subst hQ
      exact m_zret hx hb hr (rfl) hlk hK hM hS dX7_within_15 (⟨by first | exact win_1 c_2 | exact win_2 c_7, hMM⟩)
    · refine lv_iconst (v := 1) hx hb dX7_within_10 (by first | rfl | decide) ?_
      refine lv_goto (tgt := 15) hx hb dX7_within_11 (by decide) ?_
      subst hQ
      exact m_zret hx hb hr (rfl) hlk hK hM hS dX7_within_15 (⟨win_y c_2 c_7, hMM⟩)

