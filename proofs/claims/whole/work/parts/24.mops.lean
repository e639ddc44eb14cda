/-- the model's state -/
abbrev MS : Type := (Nat → Int32) × (Nat → Nat → Int32) × (Nat → Int32)
abbrev RepMS (g : GG) (A : Nat → Prop) (M : MM) (Y : Nat) (m : MS) : Prop := RepM g A M Y m.1 m.2.1 m.2.2
def recM (k : Nat) (m : MS) (σ1 : Nat → Int32) : MS := (σ1, va_up m.2.1 2 (savB k (m.2.1 2) m.1), va_up m.2.2 0 (nI (recK k)))
theorem gx_w0 {x : Int32} (h : gxn 6 x = none) : winC x 0 5 = 0 := by
  rcases pk_ix x (show 6 < 2 ^ 31 by omega) with q | q | ⟨j, hj, rfl⟩
  · exact if_neg (fun z => absurd z.1 (Int32.not_le.mpr q))
  · exact if_neg (fun z => absurd (Int32.le_trans q z.2) (by decide))
  · rw [gxn_in hj (by decide)] at h
    exact absurd h (by simp)
theorem win_n {i n : Nat} (hi : i ≤ n) (hn : n < 2 ^ 31) : winC (nI i) 0 (nI n) = 1 := if_pos ⟨(nI_leI (a := 0) (by omega) (by omega)).mpr (Nat.zero_le _), (nI_leI (by omega) hn).mpr hi⟩
theorem gx_w1 {i : Nat} (hi : i < 6) : ¬ winC (nI i) 0 5 = 0 := by
  rw [show winC (nI i) 0 5 = 1 from win_n (n := 5) (by omega) (by omega)]
  decide
def rxn (n : Nat) (x : Int32) : Option Nat := if nI n ≤ x then none else gxn 20 x
theorem rx_cases {n : Nat} (hn : n ≤ 20) (x : Int32) : (rxn n x = none ∧ winC x (nI 0) (nI n - 1) = 0) ∨ ∃ j, j < n ∧ x = nI j ∧ rxn n x = some j ∧ ¬ winC x (nI 0) (nI n - 1) = 0 := by
  rcases pk_ix x (show n < 2 ^ 31 by omega) with q | q | ⟨j, hj, rfl⟩
  · refine Or.inl ⟨?_, if_neg (fun z => absurd z.1 (Int32.not_le.mpr q))⟩
    unfold rxn
    by_cases h2 : nI n ≤ x
    · rw [if_pos h2]
    · rw [if_neg h2]
      unfold gxn
      rw [if_pos (Or.inl q)]
  · refine Or.inl ⟨if_pos q, if_neg (fun z => ?_)⟩
    have h3 := Int32.le_trans q z.2
    rw [Int32.le_iff_toInt_le] at h3
    have e1 := nI_ti (show n < 2 ^ 31 by omega)
    have e2 : (nI n - 1).toInt = n - 1 := by
      rw [ti_sub (by rw [e1, show (1 : Int32).toInt = 1 from rfl]; omega) (by rw [e1, show (1 : Int32).toInt = 1 from rfl]; omega), e1]
      rfl
    omega
  · refine Or.inr ⟨j, hj, rfl, ?_, ?_⟩
    · unfold rxn
      rw [if_neg (nI_ge hj (by omega))]
      exact gxn_in (by omega) (by decide)
    · rw [show nI n - 1 = nI (n - 1) from pk_sub (a := n) (b := 1) (by omega), show winC (nI j) (nI 0) (nI (n - 1)) = 1 from win_n (by omega) (by omega)]
      decide
theorem set_cases (x : Int32) : x = nI 0 ∨ x = nI 1 ∨ (¬ x = 0 ∧ ¬ x = 1 ∧ winC x (nI 0) (nI 1) = 0) := by
  rcases pk_ix x (show 2 < 2 ^ 31 by omega) with q | q | ⟨j, hj, rfl⟩
  · exact Or.inr (Or.inr ⟨fun z => by rw [z] at q; exact absurd q (by decide), fun z => by rw [z] at q; exact absurd q (by decide), if_neg (fun z => absurd z.1 (Int32.not_le.mpr q))⟩)
  · exact Or.inr (Or.inr ⟨fun z => by rw [z] at q; exact absurd q (by decide), fun z => by rw [z] at q; exact absurd q (by decide), if_neg (fun z => absurd (Int32.le_trans q z.2) (by decide))⟩)
  · rcases (by omega : j = 0 ∨ j = 1) with rfl | rfl
    · exact Or.inl rfl
    · exact Or.inr (Or.inl rfl)
theorem y_nz {y b : Int32} (h : ¬ winC y (nI 4) b = 0) : ¬ y = 0 := fun q => by
  have := (win_of h).1
  rw [q] at this
  exact absurd this (by decide)
/-- all u runners are lost -/
def losM : Nat → (Nat → Int32) → Nat → Int32
  | 0, σ => σ
  | u + 1, σ => losM u (drM 0 (u + 1) (va_up σ (17 * (σ (106 + 6 * 0)).toNatClampNeg + 16) (σ (17 * (σ (106 + 6 * 0)).toNatClampNeg + 16) + 1)))
theorem los_1 {σ : Nat → Int32} {u i : Nat} (e : σ (106 + 6 * 0) = nI i) (hi : i < 2 ^ 31) : losM u (drM 0 (u + 1) (va_up σ (17 * i + 16) (σ (17 * i + 16) + 1))) = losM (u + 1) σ := by
  show _ = losM u _
  rw [e, nI_clamp hi]
def whlM (y : Int32) (σ : Nat → Int32) : Nat → Nat → Int32
  | 0 => σ
  | q + 1 => va_up (whlM y σ q) (17 * q + 10) (whlM y σ q (17 * q + 11) - whlM y σ q (17 * q + 11) / y * y)
def setM (n : Nat) (σ : Nat → Int32) (y : Int32) : Nat → Int32 := whlM y (losM n (va_up σ 102 y)) 6
theorem TI.set_w {σ : Nat → Int32} {n : Nat} (h : TI σ n) {y : Int32} (hy : ¬ winC y (nI 4) (nI 60) = 0) : TI (va_up σ 102 y) n := by
  obtain ⟨a1, a2, a3, a4, a5, a6, a7, a8⟩ := h
  obtain ⟨h1, h2⟩ := win_of hy
  obtain ⟨q, hq, e, -⟩ := clampQ (hi := 60) (n := 60) (Int32.le_trans (show (0 : Int32) ≤ nI 4 by decide) h1) h2 rfl (by decide)
  have hq4 : 4 ≤ q := (nI_leI (by omega) (by omega)).mp (by rw [← e]; exact h1)
  exact ⟨⟨q, hq4, hq, by rw [va_up_self]; exact e⟩, fun j hj => by rw [va_up_ne _ _ (by omega)]; exact a2 j hj, fun j hj => by rw [va_up_ne _ _ (by omega)]; exact a3 j hj, fun j hj => by rw [va_up_ne _ _ (by omega)]; exact a4 j hj, fun j hj => by rw [va_up_ne _ _ (by omega)]; exact a5 j hj, fun r hr => by rw [va_up_ne _ _ (by omega)]; exact a6 r hr, fun r hr => by rw [va_up_ne _ _ (by omega)]; exact a7 r hr, fun r hr => by rw [va_up_ne _ _ (by omega)]; exact a8 r hr⟩
def mSet (k n : Nat) (m : MS) (x y : Int32) : Int32 × MS := if x = 0 ∧ ¬ winC y 4 60 = 0 then (m.1 102, recM k m (setM n m.1 y)) else if x = 1 ∧ ¬ winC y 0 1 = 0 then (m.1 103, recM k m (va_up m.1 103 y)) else (-1000002, m)
theorem mSet_a {k n : Nat} {m : MS} {x y : Int32} (h : x = 0) (h2 : ¬ winC y 4 60 = 0) : mSet k n m x y = (m.1 102, recM k m (setM n m.1 y)) := if_pos ⟨h, h2⟩
theorem mSet_b {k n : Nat} {m : MS} {x y : Int32} (h : x = 1) (h2 : ¬ winC y 0 1 = 0) : mSet k n m x y = (m.1 103, recM k m (va_up m.1 103 y)) := (if_neg (fun z => absurd (z.1.symm.trans h) (by decide))).trans (if_pos ⟨h, h2⟩)
theorem mSet_c {k n : Nat} {m : MS} {x y : Int32} (h : ¬ x = 0) (h2 : ¬ x = 1) : mSet k n m x y = (-1000002, m) := (if_neg (fun z => h z.1)).trans (if_neg (fun z => h2 z.1))
theorem mSet_d {k n : Nat} {m : MS} {x y : Int32} (h : x = 0) (h2 : winC y 4 60 = 0) : mSet k n m x y = (-1000002, m) := (if_neg (fun z => z.2 h2)).trans (if_neg (fun z => absurd (h.symm.trans z.1) (by decide)))
theorem mSet_e {k n : Nat} {m : MS} {x y : Int32} (h : ¬ x = 0) (h2 : winC y 0 1 = 0) : mSet k n m x y = (-1000002, m) := (if_neg (fun z => h z.1)).trans (if_neg (fun z => z.2 h2))
def gauM (σ : Nat → Int32) (i : Nat) (a b d w : Int32) : Nat → Int32 := va_up (va_up (va_up (va_up σ (17 * i + 0) a) (17 * i + 1) b) (17 * i + 2) d) (17 * i + 3) w
def mGauge (k : Nat) (m : MS) (x a b d w : Int32) : Int32 × MS := match gxn 6 x with
  | none => (-1000001, m)
  | some i => if winC a 1 9 = 0 ∨ winC b 1 50 = 0 ∨ winC d 0 200 = 0 ∨ winC w 0 9 = 0 then (-1000002, m) else (gauM m.1 i a b d w (17 * i + 4), recM k m (gauM m.1 i a b d w))
theorem mGauge_n {k : Nat} {m : MS} {x a b d w : Int32} (e : gxn 6 x = none) : mGauge k m x a b d w = (-1000001, m) := by unfold mGauge; rw [e]
theorem mGauge_b {k : Nat} {m : MS} {x a b d w : Int32} {i : Nat} (e : gxn 6 x = some i) (h : winC a 1 9 = 0 ∨ winC b 1 50 = 0 ∨ winC d 0 200 = 0 ∨ winC w 0 9 = 0) : mGauge k m x a b d w = (-1000002, m) := by unfold mGauge; rw [e]; exact if_pos h
theorem mGauge_y {k : Nat} {m : MS} {x a b d w : Int32} {i : Nat} (e : gxn 6 x = some i) (h1 : ¬ winC a 1 9 = 0) (h2 : ¬ winC b 1 50 = 0) (h3 : ¬ winC d 0 200 = 0) (h4 : ¬ winC w 0 9 = 0) : mGauge k m x a b d w = (gauM m.1 i a b d w (17 * i + 4), recM k m (gauM m.1 i a b d w)) := by unfold mGauge; rw [e]; exact if_neg (fun z => z.elim h1 (fun z => z.elim h2 (fun z => z.elim h3 h4)))
def raeM (σ : Nat → Int32) (x y : Int32) : Int32 := if winC x 0 99 = 0 ∨ winC y 1 24 = 0 then -1000002 else if ¬ σ 104 + y ≤ 9999 then -1000004 else 0
theorem rae_cases (σ : Nat → Int32) (x y : Int32) : raeM σ x y < 0 ∨ ∃ q, q ≤ 24 ∧ y = nI q ∧ ¬ winC x 0 99 = 0 ∧ raeM σ x y = 0 := by
  unfold raeM
  by_cases h : winC x 0 99 = 0 ∨ winC y 1 24 = 0
  · rw [if_pos h]; exact Or.inl (by decide)
  · rw [if_neg h]
    by_cases h2 : ¬ σ 104 + y ≤ 9999
    · rw [if_pos h2]; exact Or.inl (by decide)
    · rw [if_neg h2]
      obtain ⟨w1, w2⟩ := win_of (fun z => h (Or.inr z))
      obtain ⟨q, hq, e, -⟩ := clampQ (hi := 24) (n := 24) (Int32.le_trans (show (0 : Int32) ≤ 1 by decide) w1) w2 rfl (by decide)
      exact Or.inr ⟨q, hq, e, fun z => h (Or.inl z), rfl⟩
def mRain (k : Nat) (m : MS) (x y : Int32) : Int32 × MS := if raeM m.1 x y < 0 then (raeM m.1 x y, m) else (patM x m.1 y.toNatClampNeg, recM k m (pasM x m.1 y.toNatClampNeg))
theorem mRain_b {k : Nat} {m : MS} {x y : Int32} (h : raeM m.1 x y < 0) : mRain k m x y = (raeM m.1 x y, m) := if_pos h
theorem mRain_y {k q : Nat} {m : MS} {x : Int32} (h : raeM m.1 x (nI q) = 0) (hq : q < 2 ^ 31) : mRain k m x (nI q) = (patM x m.1 q, recM k m (pasM x m.1 q)) := (if_neg (by rw [h]; decide)).trans (by rw [nI_clamp hq])
def mSend (k n : Nat) (m : MS) (x : Int32) : Int32 × MS := match gxn 6 x with
  | none => (-1000001, m)
  | some i => if n = 20 then (-1000004, m) else (whM m.1 i, recM k m (comC (n + 1) 0 (sndC m.1 i n)))
theorem mSend_n {k n : Nat} {m : MS} {x : Int32} (e : gxn 6 x = none) : mSend k n m x = (-1000001, m) := by unfold mSend; rw [e]
theorem mSend_f {k n i : Nat} {m : MS} {x : Int32} (e : gxn 6 x = some i) (h : n = 20) : mSend k n m x = (-1000004, m) := by unfold mSend; rw [e]; exact if_pos h
theorem mSend_y {k n i : Nat} {m : MS} {x : Int32} (e : gxn 6 x = some i) (h : ¬ n = 20) : mSend k n m x = (whM m.1 i, recM k m (comC (n + 1) 0 (sndC m.1 i n))) := by unfold mSend; rw [e]; exact if_neg h
def losR (σ : Nat → Int32) (j : Nat) : Nat → Int32 := va_up σ (17 * (σ (106 + 6 * j)).toNatClampNeg + 16) (σ (17 * (σ (106 + 6 * j)).toNatClampNeg + 16) + 1)
def mLose (k n : Nat) (m : MS) (x : Int32) : Int32 × MS := match rxn n x with
  | none => (-1000001, m)
  | some j => (m.1 (106 + 6 * j), recM k m (drM j n (losR m.1 j)))
theorem mLose_n {k n : Nat} {m : MS} {x : Int32} (e : rxn n x = none) : mLose k n m x = (-1000001, m) := by unfold mLose; rw [e]
theorem mLose_y {k n j i : Nat} {m : MS} {x : Int32} (e : rxn n x = some j) (ei : m.1 (106 + 6 * j) = nI i) (hi : i < 2 ^ 31) : mLose k n m x = (m.1 (106 + 6 * j), recM k m (drM j n (va_up m.1 (17 * i + 16) (m.1 (17 * i + 16) + 1)))) := by
  unfold mLose losR
  rw [e]
  dsimp only
  rw [ei, nI_clamp hi]
def twL (j n : Nat) : Nat → (Nat → Int32) → Nat → Int32
  | 0, σ => σ
  | q + 1, σ => va_up (twL j n q σ) (106 + 6 * n + q) (twL j n q σ (106 + 6 * j + q) + if q = 3 then nI 1 else nI 0)
theorem twL_105 {j n q : Nat} {σ : Nat → Int32} : twL j n q σ 105 = σ 105 := by
  induction q with
  | zero => rfl
  | succ q ih => exact (va_up_ne _ _ (by omega)).trans ih
theorem tw_3 {j n q : Nat} {σ : Nat → Int32} (h : q = 3) : twL j n (q + 1) σ = va_up (twL j n q σ) (106 + 6 * n + q) (twL j n q σ (106 + 6 * j + q) + nI 1) := by
  show va_up _ _ (_ + if q = 3 then nI 1 else nI 0) = _
  rw [if_pos h]
theorem tw_n {j n q : Nat} {σ : Nat → Int32} (h : ¬ q = 3) : twL j n (q + 1) σ = va_up (twL j n q σ) (106 + 6 * n + q) (twL j n q σ (106 + 6 * j + q) + nI 0) := by
  show va_up _ _ (_ + if q = 3 then nI 1 else nI 0) = _
  rw [if_neg h]
def twiM (j n : Nat) (σ : Nat → Int32) : Nat → Int32 := va_up (twL j n 6 σ) 105 (nI n + 1)
def mTwice (k n : Nat) (m : MS) (x : Int32) : Int32 × MS := match rxn n x with
  | none => (-1000001, m)
  | some j => if n = 20 then (-1000004, m) else (nI n + 1, recM k m (twiM j n m.1))
theorem mTwice_n {k n : Nat} {m : MS} {x : Int32} (e : rxn n x = none) : mTwice k n m x = (-1000001, m) := by unfold mTwice; rw [e]
theorem mTwice_f {k n j : Nat} {m : MS} {x : Int32} (e : rxn n x = some j) (h : n = 20) : mTwice k n m x = (-1000004, m) := by unfold mTwice; rw [e]; exact if_pos h
theorem mTwice_y {k n j : Nat} {m : MS} {x : Int32} (e : rxn n x = some j) (h : ¬ n = 20) : mTwice k n m x = (nI n + 1, recM k m (twiM j n m.1)) := by unfold mTwice; rw [e]; exact if_neg h
set_option maxHeartbeats 4000000 in
set_option maxRecDepth 100000 in
/-- set -/
theorem k_X8_set (l : Launch) (g : GG) (A : Nat → Prop) (M0 : MM) (Y : Nat) (σ : Nat → Int32) (ar : Nat → Nat → Int32) (ns : Nat → Int32) (hR : RepM g A M0 Y σ ar ns) (k : Nat) (hk : k ≤ 6) (hkn : ns 0 = nI k) (n : Nat) (hn : σ 105 = nI n) (hn20 : n ≤ 20) (hT : TI σ n) (x y : Int32)  : Met l yX8_set (Uw yX8_set cX8_set 5 (Option.some ClassFile.FieldType.int)) (rmD 5) (PreM [.ref (Y), .int (x), .int (y)] g A M0) (PosI (fun r M1 => r = (mSet k n (σ, ar, ns) x y).1 ∧ RepMS g A M1 Y (mSet k n (σ, ar, ns) x y).2 ∧ FrM Y M0 M1) g A) 0 0 A := by
  refine mk_Met (own := RX8) rfl rfl (by decide) (Nat.le_of_ble_eq_true rfl) ?_
  intro p e s m below meth c ls aa Q haa hQ hx hb hr hlk hml hown hts hK hM hS hl hnm
  obtain ⟨M, hMM⟩ : ∃ M, M = M0 := ⟨_, rfl⟩
  rw [← hMM] at hM hR
  have ht : ∀ w ∈ lw_good, w.before _ s = true := fun w h => hts w (List.mem_cons_of_mem _ h)
  have hF : FrM Y M0 M := by rw [hMM]; exact FrM.rf
  have hl : lv_has ls 5 [(0, .ref (Y)), (1, .int (x)), (2, .int (y))] := hl
  obtain ⟨w0, hw0⟩ : ∃ w0, w0 = losM n (va_up σ 102 y) := ⟨_, rfl⟩
  rcases set_cases x with rfl | rfl | ⟨hx0, hx1, hxw⟩
  · refine lv_iload_n hx hb dX8_set_0 rfl (lv_at hl 1 rfl) ?_
    refine lv_iconst (v := nI 0) hx hb dX8_set_1 (by first | rfl | decide) ?_
    refine lv_iconst (v := nI 1) hx hb dX8_set_2 (by first | rfl | decide) ?_
    refine m_callRSI (val := winC (nI 0) (nI 0) (nI 1)) (As := [.int (nI 0), .int (nI 0), .int (nI 1)]) (rest := []) ⟨hx, hb, hml, hown, ht⟩ (k_X8_in l g A M (nI 0) (nI 0) (nI 1)) (cwS 3 ht (gUS uw_630 uw_631 uw_42 uw_632) rfl rfl rfl (by decide +kernel) ⟨by decide, by decide⟩) hK hM hS rfl hl.1 rfl (Nat.le_of_ble_eq_true rfl) dX8_set_3 ⟨by decide, by decide⟩ (fun H locs hM hS => ?_)
    refine lv_if_eq (tgt := 35) hx hb dX8_set_6 (by decide) (fun c_6 => absurd c_6 (by decide)) (fun c_6 => ?_)
    refine lv_iload_n hx hb dX8_set_9 rfl (lv_at hl 2 rfl) ?_
    refine lv_iload_n hx hb dX8_set_10 rfl (lv_at hl 1 rfl) ?_
    refine lv_if_ne (tgt := 18) hx hb dX8_set_11 (by decide) (fun c_11 => absurd (rfl) c_11) (fun c_11 => ?_)
    refine lv_iconst (v := nI 4) hx hb dX8_set_14 (by first | rfl | decide) ?_
    refine lv_goto (tgt := 19) hx hb dX8_set_15 (by decide) ?_
    refine lv_iload_n hx hb dX8_set_19 rfl (lv_at hl 1 rfl) ?_
    refine lv_if_ne (tgt := 28) hx hb dX8_set_20 (by decide) (fun c_20 => absurd (rfl) c_20) (fun c_20 => ?_)
    refine lv_bipush (v := nI 60) hx hb dX8_set_23 (by first | rfl | decide) ?_
    refine lv_goto (tgt := 29) hx hb dX8_set_25 (by decide) ?_
    refine m_callRSI (val := winC (y) (nI 4) (nI 60)) (As := [.int (y), .int (nI 4), .int (nI 60)]) (rest := []) ⟨hx, hb, hml, hown, ht⟩ (k_X8_in l g A M (y) (nI 4) (nI 60)) (cwS 3 ht (gUS uw_630 uw_631 uw_42 uw_632) rfl rfl rfl (by decide +kernel) ⟨by decide, by decide⟩) hK hM hS rfl hl.1 rfl (Nat.le_of_ble_eq_true rfl) dX8_set_29 ⟨by decide, by decide⟩ (fun H locs hM hS => ?_)
    refine lv_if_ne (tgt := 38) hx hb dX8_set_32 (by decide) (fun c_32 => ?_) (fun c_32 => ?_)
    · refine lv_aload_n hx hb dX8_set_38 rfl (lv_at hl 0 rfl) ?_
      refine m_callV (As := []) (rest := []) ⟨hx, hb, hml, hown, ht⟩ (k_X8_save0 l g A M Y σ ar ns hR k hk hkn) (cwV 0 ht (gU uw_634 uw_636 uw_11 uw_42 uw_637) rfl rfl rfl (by decide +kernel) ⟨by decide, by decide⟩) hK hM hS (m_recv hK hM (hR.1 Y (by omega) (by omega)) hR.2.1 rfl) rfl hl.1 rfl (Nat.le_of_ble_eq_true rfl) dX8_set_39 ⟨by decide, by decide⟩ (fun M H locs hp hM hS => ?_)
      obtain ⟨hR, hF1⟩ := hp
      have hF := hF.tr hF1
      refine lv_aload_n hx hb dX8_set_42 rfl (lv_at hl 0 rfl) ?_
      refine rm_getS hx hb ht ui_X8 hown hK hM hR (ht _ uw_594) dX8_set_43 ?_
      refine lv_bipush (v := nI 102) hx hb dX8_set_46 (by first | rfl | decide) ?_
      refine lv_iload_n hx hb dX8_set_48 rfl (lv_at hl 1 rfl) ?_
      refine lv_iadd hx hb dX8_set_49 ?_
      rw [nI_add (102) (0)]
      refine rm_sald hx hb hK hM hR (i := (102 + 0)) (by omega) dX8_set_50 ?_
      refine lv_istore_n (lv' := [(3, .int (σ (102 + 0))), (0, .ref (Y)), (1, .int (nI 0)), (2, .int (y))]) hx hb dX8_set_51 rfl hl (by decide) rfl (fun ls hl => ?_)
      refine lv_aload_n hx hb dX8_set_52 rfl (lv_at hl 1 rfl) ?_
      refine rm_getS hx hb ht ui_X8 hown hK hM hR (ht _ uw_594) dX8_set_53 ?_
      refine lv_bipush (v := nI 102) hx hb dX8_set_56 (by first | rfl | decide) ?_
      refine lv_iload_n hx hb dX8_set_58 rfl (lv_at hl 2 rfl) ?_
      refine lv_iadd hx hb dX8_set_59 ?_
      rw [nI_add (102) (0)]
      refine lv_iload_n hx hb dX8_set_60 rfl (lv_at hl 3 rfl) ?_
      refine rm_sast hx hb hK hM hS hR hF (i := (102 + 0)) (by omega) dX8_set_61 (fun M H locs hM hR hF hS => ?_)
      refine lv_iload_n hx hb dX8_set_62 rfl (lv_at hl 2 rfl) ?_
      refine lv_if_ne (tgt := 136) hx hb dX8_set_63 (by decide) (fun c_63 => absurd (rfl) c_63) (fun c_63 => ?_)
      have loop_66 : ∀ (z_66 : Nat) (u9 : Nat) (σ9 : Nat → Int32) (M : MM) (H : Heap) (locs : List Loc) (ls : Array Slot), u9 < z_66 → σ9 105 = nI u9 → u9 ≤ 20 → TI σ9 u9 → losM u9 σ9 = w0 → HD g A M H → RepM g A M Y σ9 (va_up ar 2 (savB k (ar 2) σ)) (va_up ns 0 (nI (recK k))) → FrM Y M0 M → va_S A s.heap H locs → lv_has ls 5 [(3, .int (σ (102 + 0))), (0, .ref (Y)), (1, .int (nI 0)), (2, .int (y))] → W p l e (rmD 5) s m aa below meth c H locs 0 0 Q (F0 m 66 ls []) := by
        intro z_66
        induction z_66 with
        | zero => intro u9 σ9 M H locs ls hz hn9 hu20 hT9 hw; exact absurd hz (Nat.not_lt_zero _)
        | succ z_66 ih_66 =>
        intro u9 σ9 M H locs ls hz hn9 hu20 hT9 hw hM hR hF hS hl
        refine lv_aload_n hx hb dX8_set_66 rfl (lv_at hl 1 rfl) ?_
        refine rm_getS hx hb ht ui_X8 hown hK hM hR (ht _ uw_594) dX8_set_67 ?_
        refine lv_bipush (v := nI 105) hx hb dX8_set_70 (by first | rfl | decide) ?_
        refine rm_sald hx hb hK hM hR (i := 105) (by omega) dX8_set_72 ?_
        rw [hn9]
        refine lv_if_le (tgt := 97) hx hb dX8_set_73 (by decide) (fun c_73 => ?_) (fun c_73 => ?_)
        · have hu0 : u9 = 0 := by have z := nI_le_of (b := u9) (a := 0) (by omega) (by omega) c_73; omega
          subst hu0
          refine lv_iconst (v := nI 0) hx hb dX8_set_97 (by first | rfl | decide) ?_
          refine lv_istore (lv' := [(4, .int (nI 0)), (3, .int (σ (102 + 0))), (0, .ref (Y)), (1, .int (nI 0)), (2, .int (y))]) hx hb dX8_set_98 hl (by decide) rfl (fun ls hl => ?_)
          have loop_100 : ∀ (z_100 : Nat) (q9 : Nat) (M : MM) (H : Heap) (locs : List Loc) (ls : Array Slot), 6 - q9 < z_100 → q9 ≤ 6 → HD g A M H → RepM g A M Y (whlM y w0 q9) (va_up ar 2 (savB k (ar 2) σ)) (va_up ns 0 (nI (recK k))) → FrM Y M0 M → va_S A s.heap H locs → lv_has ls 5 [(4, .int (nI q9)), (3, .int (σ (102 + 0))), (0, .ref (Y)), (1, .int (nI 0)), (2, .int (y))] → W p l e (rmD 5) s m aa below meth c H locs 0 0 Q (F0 m 100 ls []) := by
            intro z_100
            induction z_100 with
            | zero => intro q9 M H locs ls hz hq9; exact absurd hz (Nat.not_lt_zero _)
            | succ z_100 ih_100 =>
            intro q9 M H locs ls hz hq9 hM hR hF hS hl
            refine lv_iload hx hb dX8_set_100 (lv_at hl 0 rfl) ?_
            refine lv_bipush (v := nI 6) hx hb dX8_set_102 (by first | rfl | decide) ?_
            refine lv_icmp_ge (tgt := 136) hx hb dX8_set_104 (by decide) (fun c_104 => ?_) (fun c_104 => ?_)
            · have hq6 : q9 = 6 := Nat.le_antisymm hq9 (nI_le_of (by omega) (by decide) c_104)
              subst hq6
              refine lv_iload_n hx hb dX8_set_136 rfl (lv_at hl 1 rfl) ?_
              subst hQ
              exact m_zret hx hb hr (rfl) hlk hK hM hS dX8_set_137 (by rw [mSet_a (x := nI 0) rfl c_32]; exact ⟨rfl, hR.eqv (by unfold setM; rw [← hw0]; rfl) rfl rfl, hF⟩)
            · have hq6 : q9 < 6 := nI_lt_of (by omega) (by decide) c_104
              refine lv_aload_n hx hb dX8_set_107 rfl (lv_at hl 2 rfl) ?_
              refine rm_getS hx hb ht ui_X8 hown hK hM hR (ht _ uw_594) dX8_set_108 ?_
              refine lv_bipush (v := nI 17) hx hb dX8_set_111 (by first | rfl | decide) ?_
              refine lv_iload hx hb dX8_set_113 (lv_at hl 0 rfl) ?_
              refine lv_imul hx hb dX8_set_115 ?_
              rw [pk_mul (17) (q9)]
              refine lv_bipush (v := nI 10) hx hb dX8_set_116 (by first | rfl | decide) ?_
              refine lv_iadd hx hb dX8_set_118 ?_
              rw [nI_add ((17 * q9)) (10)]
              refine lv_aload_n hx hb dX8_set_119 rfl (lv_at hl 2 rfl) ?_
              refine lv_iload hx hb dX8_set_120 (lv_at hl 0 rfl) ?_
              refine lv_bipush (v := nI 11) hx hb dX8_set_122 (by first | rfl | decide) ?_
              refine m_callRI (val := (whlM y w0 q9) (17 * q9 + 11)) (As := [.int (nI q9), .int (nI 11)]) (rest := [.int (nI ((17 * q9) + 10)), .ref (Y + 1)]) ⟨hx, hb, hml, hown, ht⟩ (k_X8_of l g A M Y (whlM y w0 q9) (va_up ar 2 (savB k (ar 2) σ)) (va_up ns 0 (nI (recK k))) hR q9 11 (by omega)) (cwV 2 ht (gU uw_650 uw_652 uw_15 uw_42 uw_653) rfl rfl rfl (by decide +kernel) ⟨by decide, by decide⟩) hK hM hS (m_recv hK hM (hR.1 Y (by omega) (by omega)) hR.2.1 rfl) rfl hl.1 rfl (Nat.le_of_ble_eq_true rfl) dX8_set_124 ⟨by decide, by decide⟩ (fun H locs hM hS => ?_)
              refine lv_iload_n hx hb dX8_set_127 rfl (lv_at hl 4 rfl) ?_
              refine lv_irem hx hb dX8_set_128 (y_nz c_32) ?_
              refine rm_sast hx hb hK hM hS hR hF (i := ((17 * q9) + 10)) (by omega) dX8_set_129 (fun M H locs hM hR hF hS => ?_)
              refine lv_iinc (v := nI (q9 + 1)) (lv' := [(4, .int (nI (q9 + 1))), (3, .int (σ (102 + 0))), (0, .ref (Y)), (1, .int (nI 0)), (2, .int (y))]) hx hb dX8_set_130 hl (k := 0) rfl (nI_1 _) (by decide) rfl (fun ls hl => ?_)
              refine lv_goto (tgt := 100) hx hb dX8_set_133 (by decide) ?_
              exact ih_100 (q9 + 1) _ _ _ _ (by omega) (by omega) hM hR hF hS (lv_sub hl [0, 1, 2, 3, 4] rfl)
          exact loop_100 _ 0 _ _ _ _ (Nat.lt_succ_self _) (by omega) hM (hR.eqv hw.symm rfl rfl) hF hS (lv_sub hl [0, 1, 2, 3, 4] rfl)
        · obtain ⟨u, hu⟩ : ∃ u, u9 = u + 1 := ⟨u9 - 1, by have z := nI_lt_of (a := 0) (by omega) (by omega) c_73; omega⟩
          subst hu
          obtain ⟨i, hi, ei⟩ := hT9.2.2.2.2.2.1 0 (by omega)
          refine lv_aload_n hx hb dX8_set_76 rfl (lv_at hl 1 rfl) ?_
          refine lv_aload_n hx hb dX8_set_77 rfl (lv_at hl 1 rfl) ?_
          refine lv_iconst (v := nI 0) hx hb dX8_set_78 (by first | rfl | decide) ?_
          refine lv_iconst (v := nI 0) hx hb dX8_set_79 (by first | rfl | decide) ?_
          refine m_callRI (val := nI i) (As := [.int (nI 0), .int (nI 0)]) (rest := [.ref (Y)]) ⟨hx, hb, hml, hown, ht⟩ ((by have z := k_X8_runnerOf l g A M Y σ9 (va_up ar 2 (savB k (ar 2) σ)) (va_up ns 0 (nI (recK k))) hR 0 0 (by omega); rw [show σ9 (106 + 6 * 0 + 0) = nI i from ei] at z; exact z)) (cwV 2 ht (gU uw_638 uw_640 uw_12 uw_42 uw_641) rfl rfl rfl (by decide +kernel) ⟨by decide, by decide⟩) hK hM hS (m_recv hK hM (hR.1 Y (by omega) (by omega)) hR.2.1 rfl) rfl hl.1 rfl (Nat.le_of_ble_eq_true rfl) dX8_set_80 ⟨by decide, by decide⟩ (fun H locs hM hS => ?_)
          refine lv_bipush (v := nI 16) hx hb dX8_set_83 (by first | rfl | decide) ?_
          refine lv_iconst (v := nI 1) hx hb dX8_set_85 (by first | rfl | decide) ?_
          refine m_callV (As := [.int (nI i), .int (nI 16), .int (nI 1)]) (rest := []) ⟨hx, hb, hml, hown, ht⟩ (k_X8_add l g A M Y σ9 (va_up ar 2 (savB k (ar 2) σ)) (va_up ns 0 (nI (recK k))) hR i 16 (nI 1) (by omega)) (cwV 3 ht (gU uw_642 uw_644 uw_13 uw_42 uw_645) rfl rfl rfl (by decide +kernel) ⟨by decide, by decide⟩) hK hM hS (m_recv hK hM (hR.1 Y (by omega) (by omega)) hR.2.1 rfl) rfl hl.1 rfl (Nat.le_of_ble_eq_true rfl) dX8_set_86 ⟨by decide, by decide⟩ (fun M H locs hp hM hS => ?_)
          obtain ⟨hR, hF1⟩ := hp
          have hF := hF.tr hF1
          refine lv_aload_n hx hb dX8_set_89 rfl (lv_at hl 1 rfl) ?_
          refine lv_iconst (v := nI 0) hx hb dX8_set_90 (by first | rfl | decide) ?_
          refine m_callV (As := [.int (nI 0)]) (rest := []) ⟨hx, hb, hml, hown, ht⟩ (k_X8_drop l g A M Y (va_up σ9 (17 * i + 16) (σ9 (17 * i + 16) + (nI 1))) (va_up ar 2 (savB k (ar 2) σ)) (va_up ns 0 (nI (recK k))) hR 0 (u + 1) ((va_up_ne _ _ (by omega)).trans hn9) (by omega) (by omega)) (cwV 1 ht (gU uw_646 uw_648 uw_14 uw_42 uw_649) rfl rfl rfl (by decide +kernel) ⟨by decide, by decide⟩) hK hM hS (m_recv hK hM (hR.1 Y (by omega) (by omega)) hR.2.1 rfl) rfl hl.1 rfl (Nat.le_of_ble_eq_true rfl) dX8_set_91 ⟨by decide, by decide⟩ (fun M H locs hp hM hS => ?_)
          obtain ⟨hR, hF1⟩ := hp
          have hF := hF.tr hF1
          refine lv_goto (tgt := 66) hx hb dX8_set_94 (by decide) ?_
          exact ih_66 u (drM 0 (u + 1) (va_up σ9 (17 * i + 16) (σ9 (17 * i + 16) + (nI 1)))) _ _ _ _ (by omega) (by rw [drM_105]; rfl) (by omega) ((hT9.up hi (by omega) (by omega) (by omega) (by omega) (by omega) _).drM (by omega)) (by rw [← hw]; exact los_1 ei (by omega)) hM hR hF hS (lv_sub hl [0, 1, 2, 3] rfl)
      exact loop_66 _ n (va_up σ 102 y) _ _ _ _ (Nat.lt_succ_self _) ((va_up_ne _ _ (by omega)).trans hn) hn20 (hT.set_w c_32) hw0.symm hM hR hF hS (lv_sub hl [0, 1, 2, 3] rfl)
    · refine lv_ldc (v := (-1000002)) hx hb hown (ht _ uw_633) dX8_set_35 ?_
      subst hQ
      exact m_zret hx hb hr (rfl) hlk hK hM hS dX8_set_37 (by rw [mSet_d (x := nI 0) rfl c_32]; exact ⟨rfl, hR, hF⟩)
  · refine lv_iload_n hx hb dX8_set_0 rfl (lv_at hl 1 rfl) ?_
    refine lv_iconst (v := nI 0) hx hb dX8_set_1 (by first | rfl | decide) ?_
    refine lv_iconst (v := nI 1) hx hb dX8_set_2 (by first | rfl | decide) ?_
    refine m_callRSI (val := winC (nI 1) (nI 0) (nI 1)) (As := [.int (nI 1), .int (nI 0), .int (nI 1)]) (rest := []) ⟨hx, hb, hml, hown, ht⟩ (k_X8_in l g A M (nI 1) (nI 0) (nI 1)) (cwS 3 ht (gUS uw_630 uw_631 uw_42 uw_632) rfl rfl rfl (by decide +kernel) ⟨by decide, by decide⟩) hK hM hS rfl hl.1 rfl (Nat.le_of_ble_eq_true rfl) dX8_set_3 ⟨by decide, by decide⟩ (fun H locs hM hS => ?_)
    refine lv_if_eq (tgt := 35) hx hb dX8_set_6 (by decide) (fun c_6 => absurd c_6 (by decide)) (fun c_6 => ?_)
    refine lv_iload_n hx hb dX8_set_9 rfl (lv_at hl 2 rfl) ?_
    refine lv_iload_n hx hb dX8_set_10 rfl (lv_at hl 1 rfl) ?_
    refine lv_if_ne (tgt := 18) hx hb dX8_set_11 (by decide) (fun c_11 => ?_) (fun c_11 => absurd c_11 (by decide))
    refine lv_iconst (v := nI 0) hx hb dX8_set_18 (by first | rfl | decide) ?_
    refine lv_iload_n hx hb dX8_set_19 rfl (lv_at hl 1 rfl) ?_
    refine lv_if_ne (tgt := 28) hx hb dX8_set_20 (by decide) (fun c_20 => ?_) (fun c_20 => absurd c_20 (by decide))
    refine lv_iconst (v := nI 1) hx hb dX8_set_28 (by first | rfl | decide) ?_
    refine m_callRSI (val := winC (y) (nI 0) (nI 1)) (As := [.int (y), .int (nI 0), .int (nI 1)]) (rest := []) ⟨hx, hb, hml, hown, ht⟩ (k_X8_in l g A M (y) (nI 0) (nI 1)) (cwS 3 ht (gUS uw_630 uw_631 uw_42 uw_632) rfl rfl rfl (by decide +kernel) ⟨by decide, by decide⟩) hK hM hS rfl hl.1 rfl (Nat.le_of_ble_eq_true rfl) dX8_set_29 ⟨by decide, by decide⟩ (fun H locs hM hS => ?_)
    refine lv_if_ne (tgt := 38) hx hb dX8_set_32 (by decide) (fun c_32 => ?_) (fun c_32 => ?_)
    · refine lv_aload_n hx hb dX8_set_38 rfl (lv_at hl 0 rfl) ?_
      refine m_callV (As := []) (rest := []) ⟨hx, hb, hml, hown, ht⟩ (k_X8_save0 l g A M Y σ ar ns hR k hk hkn) (cwV 0 ht (gU uw_634 uw_636 uw_11 uw_42 uw_637) rfl rfl rfl (by decide +kernel) ⟨by decide, by decide⟩) hK hM hS (m_recv hK hM (hR.1 Y (by omega) (by omega)) hR.2.1 rfl) rfl hl.1 rfl (Nat.le_of_ble_eq_true rfl) dX8_set_39 ⟨by decide, by decide⟩ (fun M H locs hp hM hS => ?_)
      obtain ⟨hR, hF1⟩ := hp
      have hF := hF.tr hF1
      refine lv_aload_n hx hb dX8_set_42 rfl (lv_at hl 0 rfl) ?_
      refine rm_getS hx hb ht ui_X8 hown hK hM hR (ht _ uw_594) dX8_set_43 ?_
      refine lv_bipush (v := nI 102) hx hb dX8_set_46 (by first | rfl | decide) ?_
      refine lv_iload_n hx hb dX8_set_48 rfl (lv_at hl 1 rfl) ?_
      refine lv_iadd hx hb dX8_set_49 ?_
      rw [nI_add (102) (1)]
      refine rm_sald hx hb hK hM hR (i := (102 + 1)) (by omega) dX8_set_50 ?_
      refine lv_istore_n (lv' := [(3, .int (σ (102 + 1))), (0, .ref (Y)), (1, .int (nI 1)), (2, .int (y))]) hx hb dX8_set_51 rfl hl (by decide) rfl (fun ls hl => ?_)
      refine lv_aload_n hx hb dX8_set_52 rfl (lv_at hl 1 rfl) ?_
      refine rm_getS hx hb ht ui_X8 hown hK hM hR (ht _ uw_594) dX8_set_53 ?_
      refine lv_bipush (v := nI 102) hx hb dX8_set_56 (by first | rfl | decide) ?_
      refine lv_iload_n hx hb dX8_set_58 rfl (lv_at hl 2 rfl) ?_
      refine lv_iadd hx hb dX8_set_59 ?_
      rw [nI_add (102) (1)]
      refine lv_iload_n hx hb dX8_set_60 rfl (lv_at hl 3 rfl) ?_
      refine rm_sast hx hb hK hM hS hR hF (i := (102 + 1)) (by omega) dX8_set_61 (fun M H locs hM hR hF hS => ?_)
      refine lv_iload_n hx hb dX8_set_62 rfl (lv_at hl 2 rfl) ?_
      refine lv_if_ne (tgt := 136) hx hb dX8_set_63 (by decide) (fun c_63 => ?_) (fun c_63 => absurd c_63 (by decide))
      refine lv_iload_n hx hb dX8_set_136 rfl (lv_at hl 0 rfl) ?_
      subst hQ
      exact m_zret hx hb hr (rfl) hlk hK hM hS dX8_set_137 (by rw [mSet_b (x := nI 1) rfl c_32]; exact ⟨rfl, hR, hF⟩)
    · refine lv_ldc (v := (-1000002)) hx hb hown (ht _ uw_633) dX8_set_35 ?_
      subst hQ
      exact m_zret hx hb hr (rfl) hlk hK hM hS dX8_set_37 (by rw [mSet_e (x := nI 1) (by decide) c_32]; exact ⟨rfl, hR, hF⟩)
  · refine lv_iload_n hx hb dX8_set_0 rfl (lv_at hl 1 rfl) ?_
    refine lv_iconst (v := nI 0) hx hb dX8_set_1 (by first | rfl | decide) ?_
    refine lv_iconst (v := nI 1) hx hb dX8_set_2 (by first | rfl | decide) ?_
    refine m_callRSI (val := winC (x) (nI 0) (nI 1)) (As := [.int (x), .int (nI 0), .int (nI 1)]) (rest := []) ⟨hx, hb, hml, hown, ht⟩ (k_X8_in l g A M (x) (nI 0) (nI 1)) (cwS 3 ht (gUS uw_630 uw_631 uw_42 uw_632) rfl rfl rfl (by decide +kernel) ⟨by decide, by decide⟩) hK hM hS rfl hl.1 rfl (Nat.le_of_ble_eq_true rfl) dX8_set_3 ⟨by decide, by decide⟩ (fun H locs hM hS => ?_)
    refine lv_if_eq (tgt := 35) hx hb dX8_set_6 (by decide) (fun c_6 => ?_) (fun c_6 => absurd (hxw) c_6)
    refine lv_ldc (v := (-1000002)) hx hb hown (ht _ uw_633) dX8_set_35 ?_
    subst hQ
    exact m_zret hx hb hr (rfl) hlk hK hM hS dX8_set_37 (by rw [mSet_c hx0 hx1]; exact ⟨rfl, hR, hF⟩)

set_option maxHeartbeats 4000000 in
set_option maxRecDepth 100000 in
/-- gauge -/
theorem k_X8_gauge (l : Launch) (g : GG) (A : Nat → Prop) (M0 : MM) (Y : Nat) (σ : Nat → Int32) (ar : Nat → Nat → Int32) (ns : Nat → Int32) (hR : RepM g A M0 Y σ ar ns) (k : Nat) (hk : k ≤ 6) (hkn : ns 0 = nI k) (x a b d w : Int32)  : Met l yX8_gauge (Uw yX8_gauge cX8_gauge 6 (Option.some ClassFile.FieldType.int)) (rmD 3) (PreM [.ref (Y), .int (x), .int (a), .int (b), .int (d), .int (w)] g A M0) (PosI (fun r M1 => r = (mGauge k (σ, ar, ns) x a b d w).1 ∧ RepMS g A M1 Y (mGauge k (σ, ar, ns) x a b d w).2 ∧ FrM Y M0 M1) g A) 0 0 A := by
  refine mk_Met (own := RX8) rfl rfl (by decide) (Nat.le_of_ble_eq_true rfl) ?_
  intro p e s m below meth c ls aa Q haa hQ hx hb hr hlk hml hown hts hK hM hS hl hnm
  obtain ⟨M, hMM⟩ : ∃ M, M = M0 := ⟨_, rfl⟩
  rw [← hMM] at hM hR
  have ht : ∀ w ∈ lw_good, w.before _ s = true := fun w h => hts w (List.mem_cons_of_mem _ h)
  have hF : FrM Y M0 M := by rw [hMM]; exact FrM.rf
  have hl : lv_has ls 6 [(0, .ref (Y)), (1, .int (x)), (2, .int (a)), (3, .int (b)), (4, .int (d)), (5, .int (w))] := hl
  rcases gxn_cases (n := 6) (by decide) x with ⟨e1, h1⟩ | ⟨i, hi, rfl, e1⟩
  · refine lv_iload_n hx hb dX8_gauge_0 rfl (lv_at hl 1 rfl) ?_
    refine m_callRSI (val := winC (x) 0 5) (As := [.int (x)]) (rest := []) ⟨hx, hb, hml, hown, ht⟩ (k_X8_isGauge l g A M (x)) (cwS 1 ht (gUS uw_658 uw_659 uw_42 uw_660) rfl rfl rfl (by decide +kernel) ⟨by decide, by decide⟩) hK hM hS rfl hl.1 rfl (Nat.le_of_ble_eq_true rfl) dX8_gauge_1 ⟨by decide, by decide⟩ (fun H locs hM hS => ?_)
    refine lv_if_ne (tgt := 10) hx hb dX8_gauge_4 (by decide) (fun c_4 => absurd (gx_w0 e1) c_4) (fun c_4 => ?_)
    refine lv_ldc (v := (-1000001)) hx hb hown (ht _ uw_661) dX8_gauge_7 ?_
    subst hQ
    exact m_zret hx hb hr (rfl) hlk hK hM hS dX8_gauge_9 (by rw [mGauge_n e1]; exact ⟨rfl, hR, hF⟩)
  · refine lv_iload_n hx hb dX8_gauge_0 rfl (lv_at hl 1 rfl) ?_
    refine m_callRSI (val := winC (nI i) 0 5) (As := [.int (nI i)]) (rest := []) ⟨hx, hb, hml, hown, ht⟩ (k_X8_isGauge l g A M (nI i)) (cwS 1 ht (gUS uw_658 uw_659 uw_42 uw_660) rfl rfl rfl (by decide +kernel) ⟨by decide, by decide⟩) hK hM hS rfl hl.1 rfl (Nat.le_of_ble_eq_true rfl) dX8_gauge_1 ⟨by decide, by decide⟩ (fun H locs hM hS => ?_)
    refine lv_if_ne (tgt := 10) hx hb dX8_gauge_4 (by decide) (fun c_4 => ?_) (fun c_4 => absurd c_4 (gx_w1 hi))
    refine lv_iload_n hx hb dX8_gauge_10 rfl (lv_at hl 2 rfl) ?_
    refine lv_iconst (v := nI 1) hx hb dX8_gauge_11 (by first | rfl | decide) ?_
    refine lv_bipush (v := nI 9) hx hb dX8_gauge_12 (by first | rfl | decide) ?_
    refine m_callRSI (val := winC (a) (nI 1) (nI 9)) (As := [.int (a), .int (nI 1), .int (nI 9)]) (rest := []) ⟨hx, hb, hml, hown, ht⟩ (k_X8_in l g A M (a) (nI 1) (nI 9)) (cwS 3 ht (gUS uw_630 uw_631 uw_42 uw_632) rfl rfl rfl (by decide +kernel) ⟨by decide, by decide⟩) hK hM hS rfl hl.1 rfl (Nat.le_of_ble_eq_true rfl) dX8_gauge_14 ⟨by decide, by decide⟩ (fun H locs hM hS => ?_)
    refine lv_if_eq (tgt := 53) hx hb dX8_gauge_17 (by decide) (fun c_17 => ?_) (fun c_17 => ?_)
    · refine lv_ldc (v := (-1000002)) hx hb hown (ht _ uw_633) dX8_gauge_53 ?_
      subst hQ
      exact m_zret hx hb hr (rfl) hlk hK hM hS dX8_gauge_55 (by rw [mGauge_b e1 (by first | exact Or.inl c_17 | exact Or.inr (Or.inl c_27) | exact Or.inr (Or.inr (Or.inl c_39)) | exact Or.inr (Or.inr (Or.inr c_50)))]; exact ⟨rfl, hR, hF⟩)
    · refine lv_iload_n hx hb dX8_gauge_20 rfl (lv_at hl 3 rfl) ?_
      refine lv_iconst (v := nI 1) hx hb dX8_gauge_21 (by first | rfl | decide) ?_
      refine lv_bipush (v := nI 50) hx hb dX8_gauge_22 (by first | rfl | decide) ?_
      refine m_callRSI (val := winC (b) (nI 1) (nI 50)) (As := [.int (b), .int (nI 1), .int (nI 50)]) (rest := []) ⟨hx, hb, hml, hown, ht⟩ (k_X8_in l g A M (b) (nI 1) (nI 50)) (cwS 3 ht (gUS uw_630 uw_631 uw_42 uw_632) rfl rfl rfl (by decide +kernel) ⟨by decide, by decide⟩) hK hM hS rfl hl.1 rfl (Nat.le_of_ble_eq_true rfl) dX8_gauge_24 ⟨by decide, by decide⟩ (fun H locs hM hS => ?_)
      refine lv_if_eq (tgt := 53) hx hb dX8_gauge_27 (by decide) (fun c_27 => ?_) (fun c_27 => ?_)
      · refine lv_ldc (v := (-1000002)) hx hb hown (ht _ uw_633) dX8_gauge_53 ?_
        subst hQ
        exact m_zret hx hb hr (rfl) hlk hK hM hS dX8_gauge_55 (by rw [mGauge_b e1 (by first | exact Or.inl c_17 | exact Or.inr (Or.inl c_27) | exact Or.inr (Or.inr (Or.inl c_39)) | exact Or.inr (Or.inr (Or.inr c_50)))]; exact ⟨rfl, hR, hF⟩)
      · refine lv_iload hx hb dX8_gauge_30 (lv_at hl 4 rfl) ?_
        refine lv_iconst (v := nI 0) hx hb dX8_gauge_32 (by first | rfl | decide) ?_
        refine lv_sipush (v := nI 200) hx hb dX8_gauge_33 (by first | rfl | decide) ?_
        refine m_callRSI (val := winC (d) (nI 0) (nI 200)) (As := [.int (d), .int (nI 0), .int (nI 200)]) (rest := []) ⟨hx, hb, hml, hown, ht⟩ (k_X8_in l g A M (d) (nI 0) (nI 200)) (cwS 3 ht (gUS uw_630 uw_631 uw_42 uw_632) rfl rfl rfl (by decide +kernel) ⟨by decide, by decide⟩) hK hM hS rfl hl.1 rfl (Nat.le_of_ble_eq_true rfl) dX8_gauge_36 ⟨by decide, by decide⟩ (fun H locs hM hS => ?_)
        refine lv_if_eq (tgt := 53) hx hb dX8_gauge_39 (by decide) (fun c_39 => ?_) (fun c_39 => ?_)
        · refine lv_ldc (v := (-1000002)) hx hb hown (ht _ uw_633) dX8_gauge_53 ?_
          subst hQ
          exact m_zret hx hb hr (rfl) hlk hK hM hS dX8_gauge_55 (by rw [mGauge_b e1 (by first | exact Or.inl c_17 | exact Or.inr (Or.inl c_27) | exact Or.inr (Or.inr (Or.inl c_39)) | exact Or.inr (Or.inr (Or.inr c_50)))]; exact ⟨rfl, hR, hF⟩)
        · refine lv_iload hx hb dX8_gauge_42 (lv_at hl 5 rfl) ?_
          refine lv_iconst (v := nI 0) hx hb dX8_gauge_44 (by first | rfl | decide) ?_
          refine lv_bipush (v := nI 9) hx hb dX8_gauge_45 (by first | rfl | decide) ?_
          refine m_callRSI (val := winC (w) (nI 0) (nI 9)) (As := [.int (w), .int (nI 0), .int (nI 9)]) (rest := []) ⟨hx, hb, hml, hown, ht⟩ (k_X8_in l g A M (w) (nI 0) (nI 9)) (cwS 3 ht (gUS uw_630 uw_631 uw_42 uw_632) rfl rfl rfl (by decide +kernel) ⟨by decide, by decide⟩) hK hM hS rfl hl.1 rfl (Nat.le_of_ble_eq_true rfl) dX8_gauge_47 ⟨by decide, by decide⟩ (fun H locs hM hS => ?_)
          refine lv_if_ne (tgt := 56) hx hb dX8_gauge_50 (by decide) (fun c_50 => ?_) (fun c_50 => ?_)
          · refine lv_aload_n hx hb dX8_gauge_56 rfl (lv_at hl 0 rfl) ?_
            refine m_callV (As := []) (rest := []) ⟨hx, hb, hml, hown, ht⟩ (k_X8_save0 l g A M Y σ ar ns hR k hk hkn) (cwV 0 ht (gU uw_634 uw_636 uw_11 uw_42 uw_637) rfl rfl rfl (by decide +kernel) ⟨by decide, by decide⟩) hK hM hS (m_recv hK hM (hR.1 Y (by omega) (by omega)) hR.2.1 rfl) rfl hl.1 rfl (Nat.le_of_ble_eq_true rfl) dX8_gauge_57 ⟨by decide, by decide⟩ (fun M H locs hp hM hS => ?_)
            obtain ⟨hR, hF1⟩ := hp
            have hF := hF.tr hF1
            refine lv_aload_n hx hb dX8_gauge_60 rfl (lv_at hl 0 rfl) ?_
            refine rm_getS hx hb ht ui_X8 hown hK hM hR (ht _ uw_594) dX8_gauge_61 ?_
            refine lv_bipush (v := nI 17) hx hb dX8_gauge_64 (by first | rfl | decide) ?_
            refine lv_iload_n hx hb dX8_gauge_66 rfl (lv_at hl 1 rfl) ?_
            refine lv_imul hx hb dX8_gauge_67 ?_
            rw [pk_mul (17) (i)]
            refine lv_iconst (v := nI 0) hx hb dX8_gauge_68 (by first | rfl | decide) ?_
            refine lv_iadd hx hb dX8_gauge_69 ?_
            rw [nI_add ((17 * i)) (0)]
            refine lv_iload_n hx hb dX8_gauge_70 rfl (lv_at hl 2 rfl) ?_
            refine rm_sast hx hb hK hM hS hR hF (i := ((17 * i) + 0)) (by omega) dX8_gauge_71 (fun M H locs hM hR hF hS => ?_)
            refine lv_aload_n hx hb dX8_gauge_72 rfl (lv_at hl 0 rfl) ?_
            refine rm_getS hx hb ht ui_X8 hown hK hM hR (ht _ uw_594) dX8_gauge_73 ?_
            refine lv_bipush (v := nI 17) hx hb dX8_gauge_76 (by first | rfl | decide) ?_
            refine lv_iload_n hx hb dX8_gauge_78 rfl (lv_at hl 1 rfl) ?_
            refine lv_imul hx hb dX8_gauge_79 ?_
            rw [pk_mul (17) (i)]
            refine lv_iconst (v := nI 1) hx hb dX8_gauge_80 (by first | rfl | decide) ?_
            refine lv_iadd hx hb dX8_gauge_81 ?_
            rw [nI_add ((17 * i)) (1)]
            refine lv_iload_n hx hb dX8_gauge_82 rfl (lv_at hl 3 rfl) ?_
            refine rm_sast hx hb hK hM hS hR hF (i := ((17 * i) + 1)) (by omega) dX8_gauge_83 (fun M H locs hM hR hF hS => ?_)
            refine lv_aload_n hx hb dX8_gauge_84 rfl (lv_at hl 0 rfl) ?_
            refine rm_getS hx hb ht ui_X8 hown hK hM hR (ht _ uw_594) dX8_gauge_85 ?_
            refine lv_bipush (v := nI 17) hx hb dX8_gauge_88 (by first | rfl | decide) ?_
            refine lv_iload_n hx hb dX8_gauge_90 rfl (lv_at hl 1 rfl) ?_
            refine lv_imul hx hb dX8_gauge_91 ?_
            rw [pk_mul (17) (i)]
            refine lv_iconst (v := nI 2) hx hb dX8_gauge_92 (by first | rfl | decide) ?_
            refine lv_iadd hx hb dX8_gauge_93 ?_
            rw [nI_add ((17 * i)) (2)]
            refine lv_iload hx hb dX8_gauge_94 (lv_at hl 4 rfl) ?_
            refine rm_sast hx hb hK hM hS hR hF (i := ((17 * i) + 2)) (by omega) dX8_gauge_96 (fun M H locs hM hR hF hS => ?_)
            refine lv_aload_n hx hb dX8_gauge_97 rfl (lv_at hl 0 rfl) ?_
            refine rm_getS hx hb ht ui_X8 hown hK hM hR (ht _ uw_594) dX8_gauge_98 ?_
            refine lv_bipush (v := nI 17) hx hb dX8_gauge_101 (by first | rfl | decide) ?_
            refine lv_iload_n hx hb dX8_gauge_103 rfl (lv_at hl 1 rfl) ?_
            refine lv_imul hx hb dX8_gauge_104 ?_
            rw [pk_mul (17) (i)]
            refine lv_iconst (v := nI 3) hx hb dX8_gauge_105 (by first | rfl | decide) ?_
            refine lv_iadd hx hb dX8_gauge_106 ?_
            rw [nI_add ((17 * i)) (3)]
            refine lv_iload hx hb dX8_gauge_107 (lv_at hl 5 rfl) ?_
            refine rm_sast hx hb hK hM hS hR hF (i := ((17 * i) + 3)) (by omega) dX8_gauge_109 (fun M H locs hM hR hF hS => ?_)
            refine lv_aload_n hx hb dX8_gauge_110 rfl (lv_at hl 0 rfl) ?_
            refine lv_iload_n hx hb dX8_gauge_111 rfl (lv_at hl 1 rfl) ?_
            refine lv_iconst (v := nI 4) hx hb dX8_gauge_112 (by first | rfl | decide) ?_
            refine m_callRI (val := (va_up (va_up (va_up (va_up σ ((17 * i) + 0) (a)) ((17 * i) + 1) (b)) ((17 * i) + 2) (d)) ((17 * i) + 3) (w)) (17 * i + 4)) (As := [.int (nI i), .int (nI 4)]) (rest := []) ⟨hx, hb, hml, hown, ht⟩ (k_X8_of l g A M Y (va_up (va_up (va_up (va_up σ ((17 * i) + 0) (a)) ((17 * i) + 1) (b)) ((17 * i) + 2) (d)) ((17 * i) + 3) (w)) (va_up ar 2 (savB k (ar 2) σ)) (va_up ns 0 (nI (recK k))) hR i 4 (by omega)) (cwV 2 ht (gU uw_650 uw_652 uw_15 uw_42 uw_653) rfl rfl rfl (by decide +kernel) ⟨by decide, by decide⟩) hK hM hS (m_recv hK hM (hR.1 Y (by omega) (by omega)) hR.2.1 rfl) rfl hl.1 rfl (Nat.le_of_ble_eq_true rfl) dX8_gauge_113 ⟨by decide, by decide⟩ (fun H locs hM hS => ?_)
            subst hQ
            exact m_zret hx hb hr (rfl) hlk hK hM hS dX8_gauge_116 (by rw [mGauge_y e1 c_17 c_27 c_39 c_50]; exact ⟨rfl, hR, hF⟩)
          · refine lv_ldc (v := (-1000002)) hx hb hown (ht _ uw_633) dX8_gauge_53 ?_
            subst hQ
            exact m_zret hx hb hr (rfl) hlk hK hM hS dX8_gauge_55 (by rw [mGauge_b e1 (by first | exact Or.inl c_17 | exact Or.inr (Or.inl c_27) | exact Or.inr (Or.inr (Or.inl c_39)) | exact Or.inr (Or.inr (Or.inr c_50)))]; exact ⟨rfl, hR, hF⟩)

set_option maxHeartbeats 4000000 in
set_option maxRecDepth 100000 in
/-- rainError -/
theorem k_X8_rainError (l : Launch) (g : GG) (A : Nat → Prop) (M0 : MM) (Y : Nat) (σ : Nat → Int32) (ar : Nat → Nat → Int32) (ns : Nat → Int32) (hR : RepM g A M0 Y σ ar ns) (x y : Int32)  : Met l yX8_rainError (Uw yX8_rainError cX8_rainError 3 (Option.some ClassFile.FieldType.int)) (rmD 1) (PreM [.ref (Y), .int (x), .int (y)] g A M0) (PosI (fun r M1 => r = (raeM σ x y) ∧ M1 = M0) g A) 0 0 A := by
  refine mk_Met (own := RX8) rfl rfl (by decide) (Nat.le_of_ble_eq_true rfl) ?_
  intro p e s m below meth c ls aa Q haa hQ hx hb hr hlk hml hown hts hK hM hS hl hnm
  obtain ⟨M, hMM⟩ : ∃ M, M = M0 := ⟨_, rfl⟩
  rw [← hMM] at hM hR
  have ht : ∀ w ∈ lw_good, w.before _ s = true := fun w h => hts w (List.mem_cons_of_mem _ h)
  have hF : FrM Y M0 M := by rw [hMM]; exact FrM.rf
  have hl : lv_has ls 3 [(0, .ref (Y)), (1, .int (x)), (2, .int (y))] := hl
  refine lv_iload_n hx hb dX8_rainError_0 rfl (lv_at hl 1 rfl) ?_
  refine lv_iconst (v := nI 0) hx hb dX8_rainError_1 (by first | rfl | decide) ?_
  refine lv_bipush (v := nI 99) hx hb dX8_rainError_2 (by first | rfl | decide) ?_
  refine m_callRSI (val := winC (x) (nI 0) (nI 99)) (As := [.int (x), .int (nI 0), .int (nI 99)]) (rest := []) ⟨hx, hb, hml, hown, ht⟩ (k_X8_in l g A M (x) (nI 0) (nI 99)) (cwS 3 ht (gUS uw_630 uw_631 uw_42 uw_632) rfl rfl rfl (by decide +kernel) ⟨by decide, by decide⟩) hK hM hS rfl hl.1 rfl (Nat.le_of_ble_eq_true rfl) dX8_rainError_4 ⟨by decide, by decide⟩ (fun H locs hM hS => ?_)
  refine lv_if_eq (tgt := 20) hx hb dX8_rainError_7 (by decide) (fun c_7 => ?_) (fun c_7 => ?_)
  · refine lv_ldc (v := (-1000002)) hx hb hown (ht _ uw_633) dX8_rainError_20 ?_
    refine lv_goto (tgt := 46) hx hb dX8_rainError_22 (by decide) ?_
    subst hQ
    exact m_zret hx hb hr (rfl) hlk hK hM hS dX8_rainError_46 (⟨by unfold raeM; rw [if_pos (by first | exact Or.inl c_7 | exact Or.inr c_17)], hMM⟩)
  · refine lv_iload_n hx hb dX8_rainError_10 rfl (lv_at hl 2 rfl) ?_
    refine lv_iconst (v := nI 1) hx hb dX8_rainError_11 (by first | rfl | decide) ?_
    refine lv_bipush (v := nI 24) hx hb dX8_rainError_12 (by first | rfl | decide) ?_
    refine m_callRSI (val := winC (y) (nI 1) (nI 24)) (As := [.int (y), .int (nI 1), .int (nI 24)]) (rest := []) ⟨hx, hb, hml, hown, ht⟩ (k_X8_in l g A M (y) (nI 1) (nI 24)) (cwS 3 ht (gUS uw_630 uw_631 uw_42 uw_632) rfl rfl rfl (by decide +kernel) ⟨by decide, by decide⟩) hK hM hS rfl hl.1 rfl (Nat.le_of_ble_eq_true rfl) dX8_rainError_14 ⟨by decide, by decide⟩ (fun H locs hM hS => ?_)
    refine lv_if_ne (tgt := 25) hx hb dX8_rainError_17 (by decide) (fun c_17 => ?_) (fun c_17 => ?_)
    · refine lv_aload_n hx hb dX8_rainError_25 rfl (lv_at hl 0 rfl) ?_
      refine rm_getS hx hb ht ui_X8 hown hK hM hR (ht _ uw_594) dX8_rainError_26 ?_
      refine lv_bipush (v := nI 104) hx hb dX8_rainError_29 (by first | rfl | decide) ?_
      refine rm_sald hx hb hK hM hR (i := 104) (by omega) dX8_rainError_31 ?_
      refine lv_iload_n hx hb dX8_rainError_32 rfl (lv_at hl 2 rfl) ?_
      refine lv_iadd hx hb dX8_rainError_33 ?_
      refine lv_sipush (v := nI 9999) hx hb dX8_rainError_34 (by first | rfl | decide) ?_
      refine lv_icmp_le (tgt := 45) hx hb dX8_rainError_37 (by decide) (fun c_37 => ?_) (fun c_37 => ?_)
      · refine lv_iconst (v := nI 0) hx hb dX8_rainError_45 (by first | rfl | decide) ?_
        subst hQ
        exact m_zret hx hb hr (rfl) hlk hK hM hS dX8_rainError_46 (⟨by unfold raeM; rw [if_neg (fun z => z.elim c_7 c_17), if_neg (fun z => z c_37)]; rfl, hMM⟩)
      · refine lv_ldc (v := (-1000004)) hx hb hown (ht _ uw_670) dX8_rainError_40 ?_
        refine lv_goto (tgt := 46) hx hb dX8_rainError_42 (by decide) ?_
        subst hQ
        exact m_zret hx hb hr (rfl) hlk hK hM hS dX8_rainError_46 (⟨by unfold raeM; rw [if_neg (fun z => z.elim c_7 c_17), if_pos (show ¬ σ 104 + y ≤ 9999 from c_37)], hMM⟩)
    · refine lv_ldc (v := (-1000002)) hx hb hown (ht _ uw_633) dX8_rainError_20 ?_
      refine lv_goto (tgt := 46) hx hb dX8_rainError_22 (by decide) ?_
      subst hQ
      exact m_zret hx hb hr (rfl) hlk hK hM hS dX8_rainError_46 (⟨by unfold raeM; rw [if_pos (by first | exact Or.inl c_7 | exact Or.inr c_17)], hMM⟩)

set_option maxHeartbeats 4000000 in
set_option maxRecDepth 100000 in
/-- rain -/
theorem k_X8_rain (l : Launch) (g : GG) (A : Nat → Prop) (M0 : MM) (Y : Nat) (σ : Nat → Int32) (ar : Nat → Nat → Int32) (ns : Nat → Int32) (hR : RepM g A M0 Y σ ar ns) (k : Nat) (hk : k ≤ 6) (hkn : ns 0 = nI k) (x y : Int32) (hTN : TN σ)  : Met l yX8_rain (Uw yX8_rain cX8_rain 4 (Option.some ClassFile.FieldType.int)) (rmD 6) (PreM [.ref (Y), .int (x), .int (y)] g A M0) (PosI (fun r M1 => r = (mRain k (σ, ar, ns) x y).1 ∧ RepMS g A M1 Y (mRain k (σ, ar, ns) x y).2 ∧ FrM Y M0 M1) g A) 0 0 A := by
  refine mk_Met (own := RX8) rfl rfl (by decide) (Nat.le_of_ble_eq_true rfl) ?_
  intro p e s m below meth c ls aa Q haa hQ hx hb hr hlk hml hown hts hK hM hS hl hnm
  obtain ⟨M, hMM⟩ : ∃ M, M = M0 := ⟨_, rfl⟩
  rw [← hMM] at hM hR
  have ht : ∀ w ∈ lw_good, w.before _ s = true := fun w h => hts w (List.mem_cons_of_mem _ h)
  have hF : FrM Y M0 M := by rw [hMM]; exact FrM.rf
  have hl : lv_has ls 4 [(0, .ref (Y)), (1, .int (x)), (2, .int (y))] := hl
  rcases rae_cases σ x y with e1 | ⟨q, hq, rfl, hx1, e1⟩
  · refine lv_aload_n hx hb dX8_rain_0 rfl (lv_at hl 0 rfl) ?_
    refine lv_iload_n hx hb dX8_rain_1 rfl (lv_at hl 1 rfl) ?_
    refine lv_iload_n hx hb dX8_rain_2 rfl (lv_at hl 2 rfl) ?_
    refine m_callRI (val := raeM σ (x) (y)) (As := [.int (x), .int (y)]) (rest := []) ⟨hx, hb, hml, hown, ht⟩ (k_X8_rainError l g A M Y σ ar ns hR (x) (y)) (cwV 2 ht (gU uw_666 uw_668 uw_16 uw_42 uw_669) rfl rfl rfl (by decide +kernel) ⟨by decide, by decide⟩) hK hM hS (m_recv hK hM (hR.1 Y (by omega) (by omega)) hR.2.1 rfl) rfl hl.1 rfl (Nat.le_of_ble_eq_true rfl) dX8_rain_3 ⟨by decide, by decide⟩ (fun H locs hM hS => ?_)
    refine lv_istore_n (lv' := [(3, .int (raeM σ (x) (y))), (0, .ref (Y)), (1, .int (x)), (2, .int (y))]) hx hb dX8_rain_6 rfl hl (by decide) rfl (fun ls hl => ?_)
    refine lv_iload_n hx hb dX8_rain_7 rfl (lv_at hl 0 rfl) ?_
    refine lv_if_ge (tgt := 13) hx hb dX8_rain_8 (by decide) (fun c_8 => absurd c_8 (Int32.not_le.mpr e1)) (fun c_8 => ?_)
    refine lv_iload_n hx hb dX8_rain_11 rfl (lv_at hl 0 rfl) ?_
    subst hQ
    exact m_zret hx hb hr (rfl) hlk hK hM hS dX8_rain_12 (by rw [mRain_b (m := (σ, ar, ns)) e1]; exact ⟨rfl, hR, hF⟩)
  · refine lv_aload_n hx hb dX8_rain_0 rfl (lv_at hl 0 rfl) ?_
    refine lv_iload_n hx hb dX8_rain_1 rfl (lv_at hl 1 rfl) ?_
    refine lv_iload_n hx hb dX8_rain_2 rfl (lv_at hl 2 rfl) ?_
    refine m_callRI (val := raeM σ (x) (nI q)) (As := [.int (x), .int (nI q)]) (rest := []) ⟨hx, hb, hml, hown, ht⟩ (k_X8_rainError l g A M Y σ ar ns hR (x) (nI q)) (cwV 2 ht (gU uw_666 uw_668 uw_16 uw_42 uw_669) rfl rfl rfl (by decide +kernel) ⟨by decide, by decide⟩) hK hM hS (m_recv hK hM (hR.1 Y (by omega) (by omega)) hR.2.1 rfl) rfl hl.1 rfl (Nat.le_of_ble_eq_true rfl) dX8_rain_3 ⟨by decide, by decide⟩ (fun H locs hM hS => ?_)
    refine lv_istore_n (lv' := [(3, .int (raeM σ (x) (nI q))), (0, .ref (Y)), (1, .int (x)), (2, .int (nI q))]) hx hb dX8_rain_6 rfl hl (by decide) rfl (fun ls hl => ?_)
    refine lv_iload_n hx hb dX8_rain_7 rfl (lv_at hl 0 rfl) ?_
    refine lv_if_ge (tgt := 13) hx hb dX8_rain_8 (by decide) (fun c_8 => ?_) (fun c_8 => absurd (by rw [e1]; decide) c_8)
    refine lv_aload_n hx hb dX8_rain_13 rfl (lv_at hl 1 rfl) ?_
    refine m_callV (As := []) (rest := []) ⟨hx, hb, hml, hown, ht⟩ (k_X8_save0 l g A M Y σ ar ns hR k hk hkn) (cwV 0 ht (gU uw_634 uw_636 uw_11 uw_42 uw_637) rfl rfl rfl (by decide +kernel) ⟨by decide, by decide⟩) hK hM hS (m_recv hK hM (hR.1 Y (by omega) (by omega)) hR.2.1 rfl) rfl hl.1 rfl (Nat.le_of_ble_eq_true rfl) dX8_rain_14 ⟨by decide, by decide⟩ (fun M H locs hp hM hS => ?_)
    obtain ⟨hR, hF1⟩ := hp
    have hF := hF.tr hF1
    refine lv_aload_n hx hb dX8_rain_17 rfl (lv_at hl 1 rfl) ?_
    refine lv_iload_n hx hb dX8_rain_18 rfl (lv_at hl 2 rfl) ?_
    refine lv_iload_n hx hb dX8_rain_19 rfl (lv_at hl 3 rfl) ?_
    refine m_callI (As := [.int (x), .int (nI q)]) (rest := []) ⟨hx, hb, hml, hown, ht⟩ (k_X8_rains l g A M Y σ (va_up ar 2 (savB k (ar 2) σ)) (va_up ns 0 (nI (recK k))) hR x q (by omega) hTN) (cwV 2 ht (gU uw_671 uw_673 uw_17 uw_42 uw_674) rfl rfl rfl (by decide +kernel) ⟨by decide, by decide⟩) hK hM hS (m_recv hK hM (hR.1 Y (by omega) (by omega)) hR.2.1 rfl) rfl hl.1 rfl (Nat.le_of_ble_eq_true rfl) dX8_rain_20 ⟨by decide, by decide⟩ (fun r9 M H locs hp hM hS => ?_)
    obtain ⟨e9, hR, hF1⟩ := hp
    subst e9
    have hF := hF.tr hF1
    subst hQ
    exact m_zret hx hb hr (rfl) hlk hK hM hS dX8_rain_23 (by rw [mRain_y (m := (σ, ar, ns)) e1 (show q < 2 ^ 31 by omega)]; exact ⟨rfl, hR, hF⟩)

set_option maxHeartbeats 4000000 in
set_option maxRecDepth 100000 in
/-- send -/
theorem k_X8_send (l : Launch) (g : GG) (A : Nat → Prop) (M0 : MM) (Y : Nat) (σ : Nat → Int32) (ar : Nat → Nat → Int32) (ns : Nat → Int32) (hR : RepM g A M0 Y σ ar ns) (k : Nat) (hk : k ≤ 6) (hkn : ns 0 = nI k) (n : Nat) (hn : σ 105 = nI n) (hn20 : n ≤ 20) (hT : TI σ n) (c1 : 0 ≤ (σ (17 * 0 + 6)).toInt) (c2 : (σ (17 * 0 + 6)).toInt ≤ 33000000) (x : Int32)  : Met l yX8_send (Uw yX8_send cX8_send 2 (Option.some ClassFile.FieldType.int)) (rmD 5) (PreM [.ref (Y), .int (x)] g A M0) (PosI (fun r M1 => r = (mSend k n (σ, ar, ns) x).1 ∧ RepMS g A M1 Y (mSend k n (σ, ar, ns) x).2 ∧ FrM Y M0 M1) g A) 0 0 A := by
  refine mk_Met (own := RX8) rfl rfl (by decide) (Nat.le_of_ble_eq_true rfl) ?_
  intro p e s m below meth c ls aa Q haa hQ hx hb hr hlk hml hown hts hK hM hS hl hnm
  obtain ⟨M, hMM⟩ : ∃ M, M = M0 := ⟨_, rfl⟩
  rw [← hMM] at hM hR
  have ht : ∀ w ∈ lw_good, w.before _ s = true := fun w h => hts w (List.mem_cons_of_mem _ h)
  have hF : FrM Y M0 M := by rw [hMM]; exact FrM.rf
  have hl : lv_has ls 2 [(0, .ref (Y)), (1, .int (x))] := hl
  rcases gxn_cases (n := 6) (by decide) x with ⟨e1, h1⟩ | ⟨i, hi, rfl, e1⟩
  · refine lv_iload_n hx hb dX8_send_0 rfl (lv_at hl 1 rfl) ?_
    refine m_callRSI (val := winC (x) 0 5) (As := [.int (x)]) (rest := []) ⟨hx, hb, hml, hown, ht⟩ (k_X8_isGauge l g A M (x)) (cwS 1 ht (gUS uw_658 uw_659 uw_42 uw_660) rfl rfl rfl (by decide +kernel) ⟨by decide, by decide⟩) hK hM hS rfl hl.1 rfl (Nat.le_of_ble_eq_true rfl) dX8_send_1 ⟨by decide, by decide⟩ (fun H locs hM hS => ?_)
    refine lv_if_ne (tgt := 10) hx hb dX8_send_4 (by decide) (fun c_4 => absurd (gx_w0 e1) c_4) (fun c_4 => ?_)
    refine lv_ldc (v := (-1000001)) hx hb hown (ht _ uw_661) dX8_send_7 ?_
    subst hQ
    exact m_zret hx hb hr (rfl) hlk hK hM hS dX8_send_9 (by rw [mSend_n e1]; exact ⟨rfl, hR, hF⟩)
  · refine lv_iload_n hx hb dX8_send_0 rfl (lv_at hl 1 rfl) ?_
    refine m_callRSI (val := winC (nI i) 0 5) (As := [.int (nI i)]) (rest := []) ⟨hx, hb, hml, hown, ht⟩ (k_X8_isGauge l g A M (nI i)) (cwS 1 ht (gUS uw_658 uw_659 uw_42 uw_660) rfl rfl rfl (by decide +kernel) ⟨by decide, by decide⟩) hK hM hS rfl hl.1 rfl (Nat.le_of_ble_eq_true rfl) dX8_send_1 ⟨by decide, by decide⟩ (fun H locs hM hS => ?_)
    refine lv_if_ne (tgt := 10) hx hb dX8_send_4 (by decide) (fun c_4 => ?_) (fun c_4 => absurd c_4 (gx_w1 hi))
    refine lv_aload_n hx hb dX8_send_10 rfl (lv_at hl 0 rfl) ?_
    refine rm_getS hx hb ht ui_X8 hown hK hM hR (ht _ uw_594) dX8_send_11 ?_
    refine lv_bipush (v := nI 105) hx hb dX8_send_14 (by first | rfl | decide) ?_
    refine rm_sald hx hb hK hM hR (i := 105) (by omega) dX8_send_16 ?_
    rw [hn]
    refine lv_bipush (v := nI 20) hx hb dX8_send_17 (by first | rfl | decide) ?_
    refine lv_icmp_ne (tgt := 25) hx hb dX8_send_19 (by decide) (fun c_19 => ?_) (fun c_19 => ?_)
    · have hlt : n < 20 := by
        have z : ¬ n = 20 := fun q => c_19 (by rw [q])
        omega
      refine lv_aload_n hx hb dX8_send_25 rfl (lv_at hl 0 rfl) ?_
      refine m_callV (As := []) (rest := []) ⟨hx, hb, hml, hown, ht⟩ (k_X8_save0 l g A M Y σ ar ns hR k hk hkn) (cwV 0 ht (gU uw_634 uw_636 uw_11 uw_42 uw_637) rfl rfl rfl (by decide +kernel) ⟨by decide, by decide⟩) hK hM hS (m_recv hK hM (hR.1 Y (by omega) (by omega)) hR.2.1 rfl) rfl hl.1 rfl (Nat.le_of_ble_eq_true rfl) dX8_send_26 ⟨by decide, by decide⟩ (fun M H locs hp hM hS => ?_)
      obtain ⟨hR, hF1⟩ := hp
      have hF := hF.tr hF1
      refine lv_aload_n hx hb dX8_send_29 rfl (lv_at hl 0 rfl) ?_
      refine lv_iload_n hx hb dX8_send_30 rfl (lv_at hl 1 rfl) ?_
      refine m_callI (As := [.int (nI i)]) (rest := []) ⟨hx, hb, hml, hown, ht⟩ (k_X8_sends l g A M Y σ (va_up ar 2 (savB k (ar 2) σ)) (va_up ns 0 (nI (recK k))) hR i n hn hn20 hT hi c1 c2) (cwV 1 ht (gU uw_694 uw_696 uw_21 uw_42 uw_697) rfl rfl rfl (by decide +kernel) ⟨by decide, by decide⟩) hK hM hS (m_recv hK hM (hR.1 Y (by omega) (by omega)) hR.2.1 rfl) rfl hl.1 rfl (Nat.le_of_ble_eq_true rfl) dX8_send_31 ⟨by decide, by decide⟩ (fun r9 M H locs hp hM hS => ?_)
      obtain ⟨e9, hR, hF1⟩ := hp.1 hlt
      subst e9
      have hF := hF.tr hF1
      subst hQ
      exact m_zret hx hb hr (rfl) hlk hK hM hS dX8_send_34 (by rw [mSend_y e1 (by omega)]; exact ⟨rfl, hR, hF⟩)
    · refine lv_ldc (v := (-1000004)) hx hb hown (ht _ uw_670) dX8_send_22 ?_
      subst hQ
      exact m_zret hx hb hr (rfl) hlk hK hM hS dX8_send_24 (by rw [mSend_f e1 ((nI_eq (by omega) (by decide)).mp c_19)]; exact ⟨rfl, hR, hF⟩)

set_option maxHeartbeats 4000000 in
set_option maxRecDepth 100000 in
/-- lose -/
theorem k_X8_lose (l : Launch) (g : GG) (A : Nat → Prop) (M0 : MM) (Y : Nat) (σ : Nat → Int32) (ar : Nat → Nat → Int32) (ns : Nat → Int32) (hR : RepM g A M0 Y σ ar ns) (k : Nat) (hk : k ≤ 6) (hkn : ns 0 = nI k) (n : Nat) (hn : σ 105 = nI n) (hn20 : n ≤ 20) (hT : TI σ n) (x : Int32)  : Met l yX8_lose (Uw yX8_lose cX8_lose 3 (Option.some ClassFile.FieldType.int)) (rmD 3) (PreM [.ref (Y), .int (x)] g A M0) (PosI (fun r M1 => r = (mLose k n (σ, ar, ns) x).1 ∧ RepMS g A M1 Y (mLose k n (σ, ar, ns) x).2 ∧ FrM Y M0 M1) g A) 0 0 A := by
  refine mk_Met (own := RX8) rfl rfl (by decide) (Nat.le_of_ble_eq_true rfl) ?_
  intro p e s m below meth c ls aa Q haa hQ hx hb hr hlk hml hown hts hK hM hS hl hnm
  obtain ⟨M, hMM⟩ : ∃ M, M = M0 := ⟨_, rfl⟩
  rw [← hMM] at hM hR
  have ht : ∀ w ∈ lw_good, w.before _ s = true := fun w h => hts w (List.mem_cons_of_mem _ h)
  have hF : FrM Y M0 M := by rw [hMM]; exact FrM.rf
  have hl : lv_has ls 3 [(0, .ref (Y)), (1, .int (x))] := hl
  rcases rx_cases hn20 x with ⟨e1, h1⟩ | ⟨j, hj, rfl, e1, h1⟩
  · refine lv_iload_n hx hb dX8_lose_0 rfl (lv_at hl 1 rfl) ?_
    refine lv_iconst (v := nI 0) hx hb dX8_lose_1 (by first | rfl | decide) ?_
    refine lv_aload_n hx hb dX8_lose_2 rfl (lv_at hl 0 rfl) ?_
    refine rm_getS hx hb ht ui_X8 hown hK hM hR (ht _ uw_594) dX8_lose_3 ?_
    refine lv_bipush (v := nI 105) hx hb dX8_lose_6 (by first | rfl | decide) ?_
    refine rm_sald hx hb hK hM hR (i := 105) (by omega) dX8_lose_8 ?_
    rw [hn]
    refine lv_iconst (v := 1) hx hb dX8_lose_9 (by first | rfl | decide) ?_
    refine lv_isub hx hb dX8_lose_10 ?_
    refine m_callRSI (val := winC (x) (nI 0) (nI n - 1)) (As := [.int (x), .int (nI 0), .int (nI n - 1)]) (rest := []) ⟨hx, hb, hml, hown, ht⟩ (k_X8_in l g A M (x) (nI 0) (nI n - 1)) (cwS 3 ht (gUS uw_630 uw_631 uw_42 uw_632) rfl rfl rfl (by decide +kernel) ⟨by decide, by decide⟩) hK hM hS rfl hl.1 rfl (Nat.le_of_ble_eq_true rfl) dX8_lose_11 ⟨by decide, by decide⟩ (fun H locs hM hS => ?_)
    refine lv_if_ne (tgt := 20) hx hb dX8_lose_14 (by decide) (fun c_14 => absurd (h1) c_14) (fun c_14 => ?_)
    refine lv_ldc (v := (-1000001)) hx hb hown (ht _ uw_661) dX8_lose_17 ?_
    subst hQ
    exact m_zret hx hb hr (rfl) hlk hK hM hS dX8_lose_19 (by rw [mLose_n e1]; exact ⟨rfl, hR, hF⟩)
  · refine lv_iload_n hx hb dX8_lose_0 rfl (lv_at hl 1 rfl) ?_
    refine lv_iconst (v := nI 0) hx hb dX8_lose_1 (by first | rfl | decide) ?_
    refine lv_aload_n hx hb dX8_lose_2 rfl (lv_at hl 0 rfl) ?_
    refine rm_getS hx hb ht ui_X8 hown hK hM hR (ht _ uw_594) dX8_lose_3 ?_
    refine lv_bipush (v := nI 105) hx hb dX8_lose_6 (by first | rfl | decide) ?_
    refine rm_sald hx hb hK hM hR (i := 105) (by omega) dX8_lose_8 ?_
    rw [hn]
    refine lv_iconst (v := 1) hx hb dX8_lose_9 (by first | rfl | decide) ?_
    refine lv_isub hx hb dX8_lose_10 ?_
    refine m_callRSI (val := winC (nI j) (nI 0) (nI n - 1)) (As := [.int (nI j), .int (nI 0), .int (nI n - 1)]) (rest := []) ⟨hx, hb, hml, hown, ht⟩ (k_X8_in l g A M (nI j) (nI 0) (nI n - 1)) (cwS 3 ht (gUS uw_630 uw_631 uw_42 uw_632) rfl rfl rfl (by decide +kernel) ⟨by decide, by decide⟩) hK hM hS rfl hl.1 rfl (Nat.le_of_ble_eq_true rfl) dX8_lose_11 ⟨by decide, by decide⟩ (fun H locs hM hS => ?_)
    refine lv_if_ne (tgt := 20) hx hb dX8_lose_14 (by decide) (fun c_14 => ?_) (fun c_14 => absurd c_14 (h1))
    obtain ⟨i, hi, ei⟩ := hT.2.2.2.2.2.1 j hj
    refine lv_aload_n hx hb dX8_lose_20 rfl (lv_at hl 0 rfl) ?_
    refine m_callV (As := []) (rest := []) ⟨hx, hb, hml, hown, ht⟩ (k_X8_save0 l g A M Y σ ar ns hR k hk hkn) (cwV 0 ht (gU uw_634 uw_636 uw_11 uw_42 uw_637) rfl rfl rfl (by decide +kernel) ⟨by decide, by decide⟩) hK hM hS (m_recv hK hM (hR.1 Y (by omega) (by omega)) hR.2.1 rfl) rfl hl.1 rfl (Nat.le_of_ble_eq_true rfl) dX8_lose_21 ⟨by decide, by decide⟩ (fun M H locs hp hM hS => ?_)
    obtain ⟨hR, hF1⟩ := hp
    have hF := hF.tr hF1
    refine lv_aload_n hx hb dX8_lose_24 rfl (lv_at hl 0 rfl) ?_
    refine lv_iload_n hx hb dX8_lose_25 rfl (lv_at hl 1 rfl) ?_
    refine lv_iconst (v := nI 0) hx hb dX8_lose_26 (by first | rfl | decide) ?_
    refine m_callRI (val := nI i) (As := [.int (nI j), .int (nI 0)]) (rest := []) ⟨hx, hb, hml, hown, ht⟩ ((by have z := k_X8_runnerOf l g A M Y σ (va_up ar 2 (savB k (ar 2) σ)) (va_up ns 0 (nI (recK k))) hR j 0 (by omega); rw [show σ (106 + 6 * j + 0) = nI i from ei] at z; exact z)) (cwV 2 ht (gU uw_638 uw_640 uw_12 uw_42 uw_641) rfl rfl rfl (by decide +kernel) ⟨by decide, by decide⟩) hK hM hS (m_recv hK hM (hR.1 Y (by omega) (by omega)) hR.2.1 rfl) rfl hl.1 rfl (Nat.le_of_ble_eq_true rfl) dX8_lose_27 ⟨by decide, by decide⟩ (fun H locs hM hS => ?_)
    refine lv_istore_n (lv' := [(2, .int (nI i)), (0, .ref (Y)), (1, .int (nI j))]) hx hb dX8_lose_30 rfl hl (by decide) rfl (fun ls hl => ?_)
    refine lv_aload_n hx hb dX8_lose_31 rfl (lv_at hl 1 rfl) ?_
    refine lv_iload_n hx hb dX8_lose_32 rfl (lv_at hl 0 rfl) ?_
    refine lv_bipush (v := nI 16) hx hb dX8_lose_33 (by first | rfl | decide) ?_
    refine lv_iconst (v := nI 1) hx hb dX8_lose_35 (by first | rfl | decide) ?_
    refine m_callV (As := [.int (nI i), .int (nI 16), .int (nI 1)]) (rest := []) ⟨hx, hb, hml, hown, ht⟩ (k_X8_add l g A M Y σ (va_up ar 2 (savB k (ar 2) σ)) (va_up ns 0 (nI (recK k))) hR i 16 (nI 1) (by omega)) (cwV 3 ht (gU uw_642 uw_644 uw_13 uw_42 uw_645) rfl rfl rfl (by decide +kernel) ⟨by decide, by decide⟩) hK hM hS (m_recv hK hM (hR.1 Y (by omega) (by omega)) hR.2.1 rfl) rfl hl.1 rfl (Nat.le_of_ble_eq_true rfl) dX8_lose_36 ⟨by decide, by decide⟩ (fun M H locs hp hM hS => ?_)
    obtain ⟨hR, hF1⟩ := hp
    have hF := hF.tr hF1
    refine lv_aload_n hx hb dX8_lose_39 rfl (lv_at hl 1 rfl) ?_
    refine lv_iload_n hx hb dX8_lose_40 rfl (lv_at hl 2 rfl) ?_
    refine m_callV (As := [.int (nI j)]) (rest := []) ⟨hx, hb, hml, hown, ht⟩ (k_X8_drop l g A M Y (va_up σ (17 * i + 16) (σ (17 * i + 16) + (nI 1))) (va_up ar 2 (savB k (ar 2) σ)) (va_up ns 0 (nI (recK k))) hR j n ((va_up_ne _ _ (by omega)).trans hn) (by omega) (by omega)) (cwV 1 ht (gU uw_646 uw_648 uw_14 uw_42 uw_649) rfl rfl rfl (by decide +kernel) ⟨by decide, by decide⟩) hK hM hS (m_recv hK hM (hR.1 Y (by omega) (by omega)) hR.2.1 rfl) rfl hl.1 rfl (Nat.le_of_ble_eq_true rfl) dX8_lose_41 ⟨by decide, by decide⟩ (fun M H locs hp hM hS => ?_)
    obtain ⟨hR, hF1⟩ := hp
    have hF := hF.tr hF1
    refine lv_iload_n hx hb dX8_lose_44 rfl (lv_at hl 0 rfl) ?_
    subst hQ
    exact m_zret hx hb hr (rfl) hlk hK hM hS dX8_lose_45 (by rw [mLose_y e1 ei (by omega)]; exact ⟨ei.symm, hR, hF⟩)

set_option maxHeartbeats 4000000 in
set_option maxRecDepth 100000 in
/-- twice -/
theorem k_X8_twice (l : Launch) (g : GG) (A : Nat → Prop) (M0 : MM) (Y : Nat) (σ : Nat → Int32) (ar : Nat → Nat → Int32) (ns : Nat → Int32) (hR : RepM g A M0 Y σ ar ns) (k : Nat) (hk : k ≤ 6) (hkn : ns 0 = nI k) (n : Nat) (hn : σ 105 = nI n) (hn20 : n ≤ 20) (hT : TI σ n) (x : Int32)  : Met l yX8_twice (Uw yX8_twice cX8_twice 3 (Option.some ClassFile.FieldType.int)) (rmD 3) (PreM [.ref (Y), .int (x)] g A M0) (PosI (fun r M1 => r = (mTwice k n (σ, ar, ns) x).1 ∧ RepMS g A M1 Y (mTwice k n (σ, ar, ns) x).2 ∧ FrM Y M0 M1) g A) 0 0 A := by
  refine mk_Met (own := RX8) rfl rfl (by decide) (Nat.le_of_ble_eq_true rfl) ?_
  intro p e s m below meth c ls aa Q haa hQ hx hb hr hlk hml hown hts hK hM hS hl hnm
  obtain ⟨M, hMM⟩ : ∃ M, M = M0 := ⟨_, rfl⟩
  rw [← hMM] at hM hR
  have ht : ∀ w ∈ lw_good, w.before _ s = true := fun w h => hts w (List.mem_cons_of_mem _ h)
  have hF : FrM Y M0 M := by rw [hMM]; exact FrM.rf
  have hl : lv_has ls 3 [(0, .ref (Y)), (1, .int (x))] := hl
  rcases rx_cases hn20 x with ⟨e1, h1⟩ | ⟨j, hj, rfl, e1, h1⟩
  · refine lv_iload_n hx hb dX8_twice_0 rfl (lv_at hl 1 rfl) ?_
    refine lv_iconst (v := nI 0) hx hb dX8_twice_1 (by first | rfl | decide) ?_
    refine lv_aload_n hx hb dX8_twice_2 rfl (lv_at hl 0 rfl) ?_
    refine rm_getS hx hb ht ui_X8 hown hK hM hR (ht _ uw_594) dX8_twice_3 ?_
    refine lv_bipush (v := nI 105) hx hb dX8_twice_6 (by first | rfl | decide) ?_
    refine rm_sald hx hb hK hM hR (i := 105) (by omega) dX8_twice_8 ?_
    rw [hn]
    refine lv_iconst (v := 1) hx hb dX8_twice_9 (by first | rfl | decide) ?_
    refine lv_isub hx hb dX8_twice_10 ?_
    refine m_callRSI (val := winC (x) (nI 0) (nI n - 1)) (As := [.int (x), .int (nI 0), .int (nI n - 1)]) (rest := []) ⟨hx, hb, hml, hown, ht⟩ (k_X8_in l g A M (x) (nI 0) (nI n - 1)) (cwS 3 ht (gUS uw_630 uw_631 uw_42 uw_632) rfl rfl rfl (by decide +kernel) ⟨by decide, by decide⟩) hK hM hS rfl hl.1 rfl (Nat.le_of_ble_eq_true rfl) dX8_twice_11 ⟨by decide, by decide⟩ (fun H locs hM hS => ?_)
    refine lv_if_ne (tgt := 20) hx hb dX8_twice_14 (by decide) (fun c_14 => absurd (h1) c_14) (fun c_14 => ?_)
    refine lv_ldc (v := (-1000001)) hx hb hown (ht _ uw_661) dX8_twice_17 ?_
    subst hQ
    exact m_zret hx hb hr (rfl) hlk hK hM hS dX8_twice_19 (by rw [mTwice_n e1]; exact ⟨rfl, hR, hF⟩)
  · refine lv_iload_n hx hb dX8_twice_0 rfl (lv_at hl 1 rfl) ?_
    refine lv_iconst (v := nI 0) hx hb dX8_twice_1 (by first | rfl | decide) ?_
    refine lv_aload_n hx hb dX8_twice_2 rfl (lv_at hl 0 rfl) ?_
    refine rm_getS hx hb ht ui_X8 hown hK hM hR (ht _ uw_594) dX8_twice_3 ?_
    refine lv_bipush (v := nI 105) hx hb dX8_twice_6 (by first | rfl | decide) ?_
    refine rm_sald hx hb hK hM hR (i := 105) (by omega) dX8_twice_8 ?_
    rw [hn]
    refine lv_iconst (v := 1) hx hb dX8_twice_9 (by first | rfl | decide) ?_
    refine lv_isub hx hb dX8_twice_10 ?_
    refine m_callRSI (val := winC (nI j) (nI 0) (nI n - 1)) (As := [.int (nI j), .int (nI 0), .int (nI n - 1)]) (rest := []) ⟨hx, hb, hml, hown, ht⟩ (k_X8_in l g A M (nI j) (nI 0) (nI n - 1)) (cwS 3 ht (gUS uw_630 uw_631 uw_42 uw_632) rfl rfl rfl (by decide +kernel) ⟨by decide, by decide⟩) hK hM hS rfl hl.1 rfl (Nat.le_of_ble_eq_true rfl) dX8_twice_11 ⟨by decide, by decide⟩ (fun H locs hM hS => ?_)
    refine lv_if_ne (tgt := 20) hx hb dX8_twice_14 (by decide) (fun c_14 => ?_) (fun c_14 => absurd c_14 (h1))
    refine lv_aload_n hx hb dX8_twice_20 rfl (lv_at hl 0 rfl) ?_
    refine rm_getS hx hb ht ui_X8 hown hK hM hR (ht _ uw_594) dX8_twice_21 ?_
    refine lv_bipush (v := nI 105) hx hb dX8_twice_24 (by first | rfl | decide) ?_
    refine rm_sald hx hb hK hM hR (i := 105) (by omega) dX8_twice_26 ?_
    rw [hn]
    refine lv_bipush (v := nI 20) hx hb dX8_twice_27 (by first | rfl | decide) ?_
    refine lv_icmp_ne (tgt := 35) hx hb dX8_twice_29 (by decide) (fun c_29 => ?_) (fun c_29 => ?_)
    · have hlt : n < 20 := by
        have z : ¬ n = 20 := fun q => c_29 (by rw [q])
        omega
      refine lv_aload_n hx hb dX8_twice_35 rfl (lv_at hl 0 rfl) ?_
      refine m_callV (As := []) (rest := []) ⟨hx, hb, hml, hown, ht⟩ (k_X8_save0 l g A M Y σ ar ns hR k hk hkn) (cwV 0 ht (gU uw_634 uw_636 uw_11 uw_42 uw_637) rfl rfl rfl (by decide +kernel) ⟨by decide, by decide⟩) hK hM hS (m_recv hK hM (hR.1 Y (by omega) (by omega)) hR.2.1 rfl) rfl hl.1 rfl (Nat.le_of_ble_eq_true rfl) dX8_twice_36 ⟨by decide, by decide⟩ (fun M H locs hp hM hS => ?_)
      obtain ⟨hR, hF1⟩ := hp
      have hF := hF.tr hF1
      refine lv_iconst (v := nI 0) hx hb dX8_twice_39 (by first | rfl | decide) ?_
      refine lv_istore_n (lv' := [(2, .int (nI 0)), (0, .ref (Y)), (1, .int (nI j))]) hx hb dX8_twice_40 rfl hl (by decide) rfl (fun ls hl => ?_)
      have loop_41 : ∀ (z_41 : Nat) (q9 : Nat) (M : MM) (H : Heap) (locs : List Loc) (ls : Array Slot), 6 - q9 < z_41 → q9 ≤ 6 → HD g A M H → RepM g A M Y (twL j n q9 σ) (va_up ar 2 (savB k (ar 2) σ)) (va_up ns 0 (nI (recK k))) → FrM Y M0 M → va_S A s.heap H locs → lv_has ls 3 [(2, .int (nI q9)), (0, .ref (Y)), (1, .int (nI j))] → W p l e (rmD 3) s m aa below meth c H locs 0 0 Q (F0 m 41 ls []) := by
        intro z_41
        induction z_41 with
        | zero => intro q9 M H locs ls hz hq9; exact absurd hz (Nat.not_lt_zero _)
        | succ z_41 ih_41 =>
        intro q9 M H locs ls hz hq9 hM hR hF hS hl
        refine lv_iload_n hx hb dX8_twice_41 rfl (lv_at hl 0 rfl) ?_
        refine lv_bipush (v := nI 6) hx hb dX8_twice_42 (by first | rfl | decide) ?_
        refine lv_icmp_ge (tgt := 90) hx hb dX8_twice_44 (by decide) (fun c_44 => ?_) (fun c_44 => ?_)
        · have hq6 : q9 = 6 := Nat.le_antisymm hq9 (nI_le_of (by omega) (by decide) c_44)
          subst hq6
          refine lv_aload_n hx hb dX8_twice_90 rfl (lv_at hl 1 rfl) ?_
          refine rm_getS hx hb ht ui_X8 hown hK hM hR (ht _ uw_594) dX8_twice_91 ?_
          refine lv_bipush (v := nI 105) hx hb dX8_twice_94 (by first | rfl | decide) ?_
          refine lv_dup2_11 hx hb dX8_twice_96 rfl rfl ?_
          refine rm_sald hx hb hK hM hR (i := 105) (by omega) dX8_twice_97 ?_
          rw [twL_105.trans hn]
          refine lv_iconst (v := 1) hx hb dX8_twice_98 (by first | rfl | decide) ?_
          refine lv_iadd hx hb dX8_twice_99 ?_
          refine rm_sast hx hb hK hM hS hR hF (i := 105) (by omega) dX8_twice_100 (fun M H locs hM hR hF hS => ?_)
          refine lv_aload_n hx hb dX8_twice_101 rfl (lv_at hl 1 rfl) ?_
          refine rm_getS hx hb ht ui_X8 hown hK hM hR (ht _ uw_594) dX8_twice_102 ?_
          refine lv_bipush (v := nI 105) hx hb dX8_twice_105 (by first | rfl | decide) ?_
          refine rm_sald hx hb hK hM hR (i := 105) (by omega) dX8_twice_107 ?_
          subst hQ
          exact m_zret hx hb hr (rfl) hlk hK hM hS dX8_twice_108 (by rw [mTwice_y e1 (by omega)]; exact ⟨va_up_self _ _ _, hR, hF⟩)
        · have hq6 : q9 < 6 := nI_lt_of (by omega) (by decide) c_44
          refine lv_aload_n hx hb dX8_twice_47 rfl (lv_at hl 1 rfl) ?_
          refine rm_getS hx hb ht ui_X8 hown hK hM hR (ht _ uw_594) dX8_twice_48 ?_
          refine lv_bipush (v := nI 106) hx hb dX8_twice_51 (by first | rfl | decide) ?_
          refine lv_bipush (v := nI 6) hx hb dX8_twice_53 (by first | rfl | decide) ?_
          refine lv_aload_n hx hb dX8_twice_55 rfl (lv_at hl 1 rfl) ?_
          refine rm_getS hx hb ht ui_X8 hown hK hM hR (ht _ uw_594) dX8_twice_56 ?_
          refine lv_bipush (v := nI 105) hx hb dX8_twice_59 (by first | rfl | decide) ?_
          refine rm_sald hx hb hK hM hR (i := 105) (by omega) dX8_twice_61 ?_
          rw [twL_105.trans hn]
          refine lv_imul hx hb dX8_twice_62 ?_
          rw [pk_mul (6) (n)]
          refine lv_iadd hx hb dX8_twice_63 ?_
          rw [nI_add (106) ((6 * n))]
          refine lv_iload_n hx hb dX8_twice_64 rfl (lv_at hl 0 rfl) ?_
          refine lv_iadd hx hb dX8_twice_65 ?_
          rw [nI_add ((106 + (6 * n))) (q9)]
          refine lv_aload_n hx hb dX8_twice_66 rfl (lv_at hl 1 rfl) ?_
          refine lv_iload_n hx hb dX8_twice_67 rfl (lv_at hl 2 rfl) ?_
          refine lv_iload_n hx hb dX8_twice_68 rfl (lv_at hl 0 rfl) ?_
          refine m_callRI (val := (twL j n q9 σ) (106 + 6 * j + q9)) (As := [.int (nI j), .int (nI q9)]) (rest := [.int (nI ((106 + (6 * n)) + q9)), .ref (Y + 1)]) ⟨hx, hb, hml, hown, ht⟩ (k_X8_runnerOf l g A M Y (twL j n q9 σ) (va_up ar 2 (savB k (ar 2) σ)) (va_up ns 0 (nI (recK k))) hR j q9 (by omega)) (cwV 2 ht (gU uw_638 uw_640 uw_12 uw_42 uw_641) rfl rfl rfl (by decide +kernel) ⟨by decide, by decide⟩) hK hM hS (m_recv hK hM (hR.1 Y (by omega) (by omega)) hR.2.1 rfl) rfl hl.1 rfl (Nat.le_of_ble_eq_true rfl) dX8_twice_69 ⟨by decide, by decide⟩ (fun H locs hM hS => ?_)
          refine lv_iload_n hx hb dX8_twice_72 rfl (lv_at hl 0 rfl) ?_
          refine lv_iconst (v := nI 3) hx hb dX8_twice_73 (by first | rfl | decide) ?_
          refine lv_icmp_ne (tgt := 81) hx hb dX8_twice_74 (by decide) (fun c_74 => ?_) (fun c_74 => ?_)
          · refine lv_iconst (v := nI 0) hx hb dX8_twice_81 (by first | rfl | decide) ?_
            refine lv_iadd hx hb dX8_twice_82 ?_
            refine rm_sast hx hb hK hM hS hR hF (i := ((106 + (6 * n)) + q9)) (by omega) dX8_twice_83 (fun M H locs hM hR hF hS => ?_)
            refine lv_iinc (v := nI (q9 + 1)) (lv' := [(2, .int (nI (q9 + 1))), (0, .ref (Y)), (1, .int (nI j))]) hx hb dX8_twice_84 hl (k := 0) rfl (nI_1 _) (by decide) rfl (fun ls hl => ?_)
            refine lv_goto (tgt := 41) hx hb dX8_twice_87 (by decide) ?_
            exact ih_41 (q9 + 1) _ _ _ _ (by omega) (by omega) hM (hR.eqv (tw_n (fun z => c_74 (by rw [z]))) rfl rfl) hF hS (lv_sub hl [0, 1, 2] rfl)
          · refine lv_iconst (v := nI 1) hx hb dX8_twice_77 (by first | rfl | decide) ?_
            refine lv_goto (tgt := 82) hx hb dX8_twice_78 (by decide) ?_
            refine lv_iadd hx hb dX8_twice_82 ?_
            refine rm_sast hx hb hK hM hS hR hF (i := ((106 + (6 * n)) + q9)) (by omega) dX8_twice_83 (fun M H locs hM hR hF hS => ?_)
            refine lv_iinc (v := nI (q9 + 1)) (lv' := [(2, .int (nI (q9 + 1))), (0, .ref (Y)), (1, .int (nI j))]) hx hb dX8_twice_84 hl (k := 0) rfl (nI_1 _) (by decide) rfl (fun ls hl => ?_)
            refine lv_goto (tgt := 41) hx hb dX8_twice_87 (by decide) ?_
            exact ih_41 (q9 + 1) _ _ _ _ (by omega) (by omega) hM (hR.eqv (tw_3 ((nI_eq (by omega) (by decide)).mp c_74)) rfl rfl) hF hS (lv_sub hl [0, 1, 2] rfl)
      exact loop_41 _ 0 _ _ _ _ (Nat.lt_succ_self _) (by omega) hM hR hF hS (lv_sub hl [0, 1, 2] rfl)
    · refine lv_ldc (v := (-1000004)) hx hb hown (ht _ uw_670) dX8_twice_32 ?_
      subst hQ
      exact m_zret hx hb hr (rfl) hlk hK hM hS dX8_twice_34 (by rw [mTwice_f e1 ((nI_eq (by omega) (by decide)).mp c_29)]; exact ⟨rfl, hR, hF⟩)
