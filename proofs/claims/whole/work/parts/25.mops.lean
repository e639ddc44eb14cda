theorem gx_out {n : Nat} (hn : n + 1 < 2 ^ 31) {x : Int32} (h : gxn (n + 1) x = none) : winC x (nI 0) (nI n) = 0 := by
  rcases pk_ix x hn with q | q | ⟨j, hj, rfl⟩
  · exact if_neg (fun z => absurd z.1 (Int32.not_le.mpr q))
  · exact if_neg (fun z => absurd ((nI_leI (by omega) (by omega)).mp (Int32.le_trans q z.2)) (by omega))
  · rw [gxn_in hj hn] at h
    exact absurd h (by simp)
theorem gx_inn {i n : Nat} (hi : i ≤ n) (hn : n < 2 ^ 31) : ¬ winC (nI i) (nI 0) (nI n) = 0 := by
  rw [show winC (nI i) (nI 0) (nI n) = 1 from win_n hi hn]
  decide
theorem gxn_out2 {n : Nat} (hn : n + 1 < 2 ^ 31) {x : Int32} (h : x.toInt < 0 ∨ (n : Int) < x.toInt) : gxn (n + 1) x = none := by
  rcases pk_ix x hn with q | q | ⟨j, hj, rfl⟩
  · unfold gxn
    rw [if_pos (Or.inl q)]
  · unfold gxn
    refine if_pos (Or.inr ?_)
    rw [Int32.le_iff_toInt_le, nI_ti hn] at q
    rw [show x.toNatClampNeg = x.toInt.toNat from rfl]
    omega
  · rw [nI_ti (by omega)] at h
    omega
def fcM (σ : Nat → Int32) (i w : Nat) : Int32 := if w < 6 then σ (17 * i + w) else if w = 6 then whM σ i else σ (17 * i + (w - 1))
theorem fcM_l {σ : Nat → Int32} {i w : Nat} (h : w < 6) : σ (17 * i + w) = fcM σ i w := (if_pos h).symm
theorem fcM_6 {σ : Nat → Int32} {i w : Nat} (h : w = 6) : whM σ i = fcM σ i w := by rw [h]; rfl
theorem fcM_g {σ : Nat → Int32} {i w : Nat} (h : 6 ≤ w) (h2 : ¬ w = 6) : σ (17 * i + (w - 1)) = fcM σ i w := ((if_neg (Nat.not_lt.mpr h)).trans (if_neg h2)).symm
def mGaugeOf (σ : Nat → Int32) (x y : Int32) : Int32 := match gxn 6 x with
  | none => -1000001
  | some i => match gxn 9 y with
    | none => -1000002
    | some w => fcM σ i w
def ldM (σ : Nat → Int32) (i w : Nat) : Int32 := if w < 3 then σ (17 * i + (8 + w)) else if w = 3 then σ (17 * i + 5) - σ (17 * i + 8) else σ (17 * i + (13 + w - 4))
def mLedger (σ : Nat → Int32) (x y : Int32) : Int32 := match gxn 6 x with
  | none => -1000001
  | some i => match gxn 8 y with
    | none => -1000002
    | some w => ldM σ i w
def mRunner (n : Nat) (σ : Nat → Int32) (x y : Int32) : Int32 := match rxn n x with
  | none => -1000001
  | some j => match gxn 4 y with
    | none => -1000002
    | some w => if w = 3 then σ (106 + 6 * j + 3) - σ 104 else σ (106 + 6 * j + w)
theorem run_cases (y : Int32) : (gxn 4 y = none ∧ winC y (nI 0) (nI 2) = 0 ∧ ¬ y = nI 3) ∨ (y = nI 3 ∧ winC (nI 3) (nI 0) (nI 2) = 0) ∨ ∃ w, w < 3 ∧ y = nI w := by
  rcases gxn_cases (n := 4) (by decide) y with ⟨e, h⟩ | ⟨w, hw, rfl, e⟩
  · refine Or.inl ⟨e, ?_, fun q => ?_⟩
    · rcases h with q | q
      · exact if_neg (fun z => absurd z.1 (Int32.not_le.mpr q))
      · exact if_neg (fun z => absurd ((nI_leI (by omega) (by omega)).mp (Int32.le_trans q z.2)) (by omega))
    · rw [q, gxn_in (by omega) (by omega)] at e
      exact absurd e (by simp)
  · by_cases h3 : w = 3
    · subst h3
      exact Or.inr (Or.inl ⟨rfl, by decide⟩)
    · exact Or.inr (Or.inr ⟨w, by omega, rfl⟩)
def untM (σ : Nat → Int32) (i : Nat) : Int32 := σ (17 * i + 5) - σ (17 * i + 11)
def gpsM (σ : Nat → Int32) : Nat → Int32
  | 0 => 0
  | i + 1 => gpsM σ i + if σ (17 * i + 5) - σ (17 * i + 8) = 0 then nI 0 else nI 1
theorem gpsM_0 {σ : Nat → Int32} {i : Nat} (h : σ (17 * i + 5) - σ (17 * i + 8) = 0) : gpsM σ (i + 1) = gpsM σ i + nI 0 := by
  show _ + (if _ then _ else _) = _
  rw [if_pos h]
theorem gpsM_1 {σ : Nat → Int32} {i : Nat} (h : ¬ σ (17 * i + 5) - σ (17 * i + 8) = 0) : gpsM σ (i + 1) = gpsM σ i + nI 1 := by
  show _ + (if _ then _ else _) = _
  rw [if_neg h]
def cnM (σ ns : Nat → Int32) (w : Nat) : Int32 := if w < 4 then σ (102 + w) else if w = 4 then sumN (fun z => σ (17 * z + 6)) 6 else if w = 5 then sumN (fun z => σ (17 * z + 7)) 6 + sumN (fun z => σ (17 * z + 4)) 6 else if w = 6 then sumN (fun z => σ (17 * z + 5)) 6 else if w = 7 then sumN (fun z => σ (17 * z + 8)) 6 else if w = 8 then gpsM σ 6 else if w = 9 then ns 1 else ns 0
def mCount (σ ns : Nat → Int32) (x : Int32) : Int32 := match gxn 11 x with
  | none => -1000002
  | some w => cnM σ ns w
/-- hours until a round: z are left, h gone, u untold, d in the cup -/
def unlM (σ : Nat → Int32) (i : Nat) (c : Int32) : Nat → Nat → Int32 → Int32 → Int32
  | 0, h, u, _ => if u < σ 102 then -1000006 else nI h
  | z + 1, h, u, d => if u < σ 102 then unlM σ i c z (h + 1) (u + (d + c) / σ (17 * i + 1)) (d + c - (d + c) / σ (17 * i + 1) * σ (17 * i + 1)) else nI h
theorem unl_a {σ : Nat → Int32} {i z h : Nat} {c u d : Int32} (q : σ 102 ≤ u) : unlM σ i c z h u d = nI h := by
  cases z with
  | zero => exact if_neg (Int32.not_lt.mpr q)
  | succ z => exact if_neg (Int32.not_lt.mpr q)
theorem unl_b {σ : Nat → Int32} {i h : Nat} {c u d : Int32} (q : u < σ 102) : unlM σ i c (500 - 500) h u d = -1000006 := if_pos q
theorem unl_s {σ : Nat → Int32} {i h : Nat} {c u d : Int32} (hh : h < 500) (q : u < σ 102) : unlM σ i c (500 - h) h u d = unlM σ i c (500 - (h + 1)) (h + 1) (u + (d + c) / σ (17 * i + 1)) (d + c - (d + c) / σ (17 * i + 1) * σ (17 * i + 1)) := by
  rw [show 500 - h = (500 - (h + 1)) + 1 by omega]
  exact if_pos q
def mUntil (σ : Nat → Int32) (x y : Int32) : Int32 := match gxn 6 x with
  | none => -1000001
  | some i => if winC y (nI 0) (nI 99) = 0 then -1000002 else unlM σ i (felM σ i y) 500 0 (untM σ i) (σ (17 * i + 4))
theorem mUntil_y {σ : Nat → Int32} {x y : Int32} {i : Nat} (e : gxn 6 x = some i) (h : ¬ winC y (nI 0) (nI 99) = 0) : mUntil σ x y = unlM σ i (felM σ i y) 500 0 (untM σ i) (σ (17 * i + 4)) := by
  unfold mUntil
  rw [e]
  exact if_neg h
theorem cp_back {f h σ : Nat → Int32} (hf : ∀ q, 226 ≤ q → f q = σ q) : cpN 226 f (va_up (fun _ : Nat => h) 1 (cpN 226 h σ) 1) = σ := by
  funext q
  show cpN 226 f (cpN 226 h σ) q = _
  unfold cpN
  by_cases hq : q < 226
  · rw [if_pos hq, if_pos hq]
  · rw [if_neg hq]
    exact hf q (by omega)
def asiM (m : MS) : MS := (m.1, va_up m.2.1 1 (cpN 226 (m.2.1 1) m.1), m.2.2)
def sntM (σ : Nat → Int32) (i : Nat) : Int32 := telC σ i (whM σ i) (σ 104) (σ (17 * i + 5)) (σ (17 * 0 + 6)) (17 * i + 5) - telC σ i (whM σ i) (σ 104) (σ (17 * i + 5)) (σ (17 * 0 + 6)) (17 * i + 8)
def mIfSent (m : MS) (x : Int32) : Int32 × MS := match gxn 6 x with
  | none => (-1000001, m)
  | some i => (sntM m.1 i, asiM m)
theorem mIfSent_n {m : MS} {x : Int32} (e : gxn 6 x = none) : mIfSent m x = (-1000001, m) := by unfold mIfSent; rw [e]
theorem mIfSent_y {m : MS} {x : Int32} {i : Nat} (e : gxn 6 x = some i) : mIfSent m x = (sntM m.1 i, asiM m) := by unfold mIfSent; rw [e]
def mIfAll (N : Nat) (m : MS) (x : Int32) : Int32 × MS := match gxn 6 x with
  | none => (-1000001, m)
  | some i => (pasM 0 m.1 N (17 * i + 5) - pasM 0 m.1 N (17 * i + 8), asiM m)
theorem mIfAll_n {N : Nat} {m : MS} {x : Int32} (e : gxn 6 x = none) : mIfAll N m x = (-1000001, m) := by unfold mIfAll; rw [e]
theorem mIfAll_y {N : Nat} {m : MS} {x : Int32} {i : Nat} (e : gxn 6 x = some i) : mIfAll N m x = (pasM 0 m.1 N (17 * i + 5) - pasM 0 m.1 N (17 * i + 8), asiM m) := by unfold mIfAll; rw [e]
theorem drM_hi {k n q : Nat} {σ : Nat → Int32} (hn : n ≤ 20) (hk : k < n) (hq : 226 ≤ q) : drM k n σ q = σ q := by
  unfold drM drB drA
  rw [if_neg (by omega), if_neg (by omega), if_neg (by omega)]
theorem comC_hi : ∀ (u k : Nat) (σ : Nat → Int32) (q : Nat), k + u ≤ 20 → σ 105 = nI (k + u) → TI σ (k + u) → 226 ≤ q → comC u k σ q = σ q := by
  intro u
  induction u with
  | zero => intro k σ q h1 h2 h3 hq; rfl
  | succ u ih =>
    intro k σ q h1 h2 h3 hq
    unfold comC
    split
    · obtain ⟨i, hi, e⟩ := h3.2.2.2.2.2.1 k (by omega)
      have b1 := h3.2.2.2.2.2.2.1 k (by omega)
      have b5 := h3.2.2.2.2.2.2.2 k (by omega)
      rw [e, nI_clamp (show i < 2 ^ 31 by omega)]
      rw [ih k _ q (by omega) (by rw [drM_105]; rfl) (by
        have := (h3.telC hi (h := σ (106 + 6 * k + 2)) (t := σ (106 + 6 * k + 4)) b1.1 b1.2 b5.1 b5.2).drM (k := k) (by omega)
        exact this) hq, drM_hi (by omega) (by omega) hq]
      exact telC_o hi (by omega)
    · exact ih (k + 1) σ q (by omega) (by rw [h2]; congr 1; omega) (by
        have e : k + 1 + u = k + (u + 1) := by omega
        rw [e]; exact h3) hq
theorem pasM_hi {σ : Nat → Int32} (h : TN σ) {am : Int32} (z : Nat) {q : Nat} (hq : 226 ≤ q) : pasM am σ z q = σ q := by
  induction z with
  | zero => rfl
  | succ z ih =>
    obtain ⟨n, hn, e, T⟩ := pasM_TN h am z
    show houM am (pasM am σ z) q = _
    unfold houM
    rw [e, nI_clamp (show n < 2 ^ 31 by omega), comC_hi n 0 _ q (by omega) (by rw [ho1M_105, e, Nat.zero_add]) (by rw [Nat.zero_add]; exact T.ho1M am) hq, ← ih]
    unfold ho1M
    rw [va_up_ne _ _ (by omega)]
    exact catML_o (by omega) 6 (by omega)
def foV : Option Nat → Int32
  | none => -1000006
  | some f => nI f
theorem foV_ne {f : Nat} (hf : f < 6) : ¬ nI f = -1000006 := fun q => by
  have h := congrArg Int32.toInt q
  rw [nI_ti (by omega), show (-1000006 : Int32).toInt = -1000006 from rfl] at h
  omega
def uoV (σ : Nat → Int32) : Option Nat → Int32
  | none => nI 0
  | some f => untM σ f
def mouM (σ : Nat → Int32) : Nat → Option Nat
  | 0 => none
  | q + 1 => if uoV σ (mouM σ q) < untM σ q then some q else mouM σ q
theorem mou_1 {σ : Nat → Int32} {q : Nat} {o : Option Nat} (h : mouM σ q = o) (c : uoV σ o < untM σ q) : some q = mouM σ (q + 1) := by
  show _ = if _ then _ else _
  rw [h, if_pos c]
theorem mou_2 {σ : Nat → Int32} {q : Nat} {o : Option Nat} (h : mouM σ q = o) (c : ¬ uoV σ o < untM σ q) : o = mouM σ (q + 1) := by
  show _ = if _ then _ else _
  rw [h, if_neg c]
def mWipe (m : MS) : Int32 × MS := (m.2.2 1, m.1, m.2.1, va_up m.2.2 1 (nI 0))
def mUndo (k : Nat) (m : MS) : Int32 × MS := match k with
  | 0 => (-1000005, m)
  | k + 1 => (nI k, cpN 226 m.1 (fun z => m.2.1 2 (226 * k + z)), m.2.1, va_up m.2.2 0 (nI k))
def mSave (m : MS) (x : Int32) : Int32 × MS := match gxn 2 x with
  | none => (-1000002, m)
  | some i => (m.1 104, m.1, va_up (va_up m.2.1 3 (wrN i 226 (m.2.1 3) m.1)) 4 (va_up (va_up m.2.1 3 (wrN i 226 (m.2.1 3) m.1) 4) i (vp_nar .boolean (nI 1))), m.2.2)
theorem mSave_n {m : MS} {x : Int32} (e : gxn 2 x = none) : mSave m x = (-1000002, m) := by unfold mSave; rw [e]
theorem mSave_y {m : MS} {x : Int32} {i : Nat} (e : gxn 2 x = some i) : mSave m x = (m.1 104, m.1, va_up (va_up m.2.1 3 (wrN i 226 (m.2.1 3) m.1)) 4 (va_up (va_up m.2.1 3 (wrN i 226 (m.2.1 3) m.1) 4) i (vp_nar .boolean (nI 1))), m.2.2) := by unfold mSave; rw [e]
def mRestore (k : Nat) (m : MS) (x : Int32) : Int32 × MS := match gxn 2 x with
  | none => (-1000002, m)
  | some i => if m.2.1 4 i = 0 then (-1000005, m) else (cpN 226 m.1 (fun z => m.2.1 3 (226 * i + z)) 104, recM k m (cpN 226 m.1 (fun z => m.2.1 3 (226 * i + z))))
theorem mRestore_n {k : Nat} {m : MS} {x : Int32} (e : gxn 2 x = none) : mRestore k m x = (-1000002, m) := by unfold mRestore; rw [e]
theorem mRestore_0 {k i : Nat} {m : MS} {x : Int32} (e : gxn 2 x = some i) (h : m.2.1 4 i = 0) : mRestore k m x = (-1000005, m) := by unfold mRestore; rw [e]; exact if_pos h
theorem mRestore_y {k i : Nat} {m : MS} {x : Int32} (e : gxn 2 x = some i) (h : ¬ m.2.1 4 i = 0) : mRestore k m x = (cpN 226 m.1 (fun z => m.2.1 3 (226 * i + z)) 104, recM k m (cpN 226 m.1 (fun z => m.2.1 3 (226 * i + z)))) := by unfold mRestore; rw [e]; exact if_neg h
set_option maxHeartbeats 4000000 in
set_option maxRecDepth 100000 in
/-- gaugeOf -/
theorem k_X8_gaugeOf (l : Launch) (g : GG) (A : Nat → Prop) (M0 : MM) (Y : Nat) (σ : Nat → Int32) (ar : Nat → Nat → Int32) (ns : Nat → Int32) (hR : RepM g A M0 Y σ ar ns) (n : Nat) (hn : σ 105 = nI n) (hn20 : n ≤ 20) (hT : TI σ n) (x y : Int32)  : Met l yX8_gaugeOf (Uw yX8_gaugeOf cX8_gaugeOf 3 (Option.some ClassFile.FieldType.int)) (rmD 2) (PreM [.ref (Y), .int (x), .int (y)] g A M0) (PosI (fun r M1 => r = (mGaugeOf σ x y) ∧ M1 = M0) g A) 0 0 A := by
  refine mk_Met (own := RX8) rfl rfl (by decide) (Nat.le_of_ble_eq_true rfl) ?_
  intro p e s m below meth c ls aa Q haa hQ hx hb hr hlk hml hown hts hK hM hS hl hnm
  obtain ⟨M, hMM⟩ : ∃ M, M = M0 := ⟨_, rfl⟩
  rw [← hMM] at hM hR
  have ht : ∀ w ∈ lw_good, w.before _ s = true := fun w h => hts w (List.mem_cons_of_mem _ h)
  have hF : FrM Y M0 M := by rw [hMM]; exact FrM.rf
  have hl : lv_has ls 3 [(0, .ref (Y)), (1, .int (x)), (2, .int (y))] := hl
  have hW0 : ¬ σ 102 = 0 := by
    obtain ⟨w0, q1, q2, q3⟩ := hT.1
    rw [q3]
    exact nI_ne0 (by omega) (by omega)
  rcases gxn_cases (n := 6) (by decide) x with ⟨e1, h1⟩ | ⟨i, hi, rfl, e1⟩
  · refine lv_iload_n hx hb dX8_gaugeOf_0 rfl (lv_at hl 1 rfl) ?_
    refine m_callRSI (val := winC (x) 0 5) (As := [.int (x)]) (rest := []) ⟨hx, hb, hml, hown, ht⟩ (k_X8_isGauge l g A M (x)) (cwS 1 ht (gUS uw_658 uw_659 uw_42 uw_660) rfl rfl rfl (by decide +kernel) ⟨by decide, by decide⟩) hK hM hS rfl hl.1 rfl (Nat.le_of_ble_eq_true rfl) dX8_gaugeOf_1 ⟨by decide, by decide⟩ (fun H locs hM hS => ?_)
    refine lv_if_ne (tgt := 10) hx hb dX8_gaugeOf_4 (by decide) (fun c_4 => absurd (gx_w0 e1) c_4) (fun c_4 => ?_)
    refine lv_ldc (v := (-1000001)) hx hb hown (ht _ uw_661) dX8_gaugeOf_7 ?_
    subst hQ
    exact m_zret hx hb hr (rfl) hlk hK hM hS dX8_gaugeOf_9 (⟨by unfold mGaugeOf; rw [e1], hMM⟩)
  · refine lv_iload_n hx hb dX8_gaugeOf_0 rfl (lv_at hl 1 rfl) ?_
    refine m_callRSI (val := winC (nI i) 0 5) (As := [.int (nI i)]) (rest := []) ⟨hx, hb, hml, hown, ht⟩ (k_X8_isGauge l g A M (nI i)) (cwS 1 ht (gUS uw_658 uw_659 uw_42 uw_660) rfl rfl rfl (by decide +kernel) ⟨by decide, by decide⟩) hK hM hS rfl hl.1 rfl (Nat.le_of_ble_eq_true rfl) dX8_gaugeOf_1 ⟨by decide, by decide⟩ (fun H locs hM hS => ?_)
    refine lv_if_ne (tgt := 10) hx hb dX8_gaugeOf_4 (by decide) (fun c_4 => ?_) (fun c_4 => absurd c_4 (gx_w1 hi))
    rcases gxn_cases (n := 9) (by decide) y with ⟨e2, h2⟩ | ⟨w, hw, rfl, e2⟩
    · refine lv_iload_n hx hb dX8_gaugeOf_10 rfl (lv_at hl 2 rfl) ?_
      refine lv_iconst (v := nI 0) hx hb dX8_gaugeOf_11 (by first | rfl | decide) ?_
      refine lv_bipush (v := nI 8) hx hb dX8_gaugeOf_12 (by first | rfl | decide) ?_
      refine m_callRSI (val := winC (y) (nI 0) (nI 8)) (As := [.int (y), .int (nI 0), .int (nI 8)]) (rest := []) ⟨hx, hb, hml, hown, ht⟩ (k_X8_in l g A M (y) (nI 0) (nI 8)) (cwS 3 ht (gUS uw_630 uw_631 uw_42 uw_632) rfl rfl rfl (by decide +kernel) ⟨by decide, by decide⟩) hK hM hS rfl hl.1 rfl (Nat.le_of_ble_eq_true rfl) dX8_gaugeOf_14 ⟨by decide, by decide⟩ (fun H locs hM hS => ?_)
      refine lv_if_ne (tgt := 23) hx hb dX8_gaugeOf_17 (by decide) (fun c_17 => absurd (gx_out (n := 8) (by decide) e2) c_17) (fun c_17 => ?_)
      refine lv_ldc (v := (-1000002)) hx hb hown (ht _ uw_633) dX8_gaugeOf_20 ?_
      subst hQ
      exact m_zret hx hb hr (rfl) hlk hK hM hS dX8_gaugeOf_22 (⟨by unfold mGaugeOf; rw [e1]; dsimp only; rw [e2], hMM⟩)
    · refine lv_iload_n hx hb dX8_gaugeOf_10 rfl (lv_at hl 2 rfl) ?_
      refine lv_iconst (v := nI 0) hx hb dX8_gaugeOf_11 (by first | rfl | decide) ?_
      refine lv_bipush (v := nI 8) hx hb dX8_gaugeOf_12 (by first | rfl | decide) ?_
      refine m_callRSI (val := winC (nI w) (nI 0) (nI 8)) (As := [.int (nI w), .int (nI 0), .int (nI 8)]) (rest := []) ⟨hx, hb, hml, hown, ht⟩ (k_X8_in l g A M (nI w) (nI 0) (nI 8)) (cwS 3 ht (gUS uw_630 uw_631 uw_42 uw_632) rfl rfl rfl (by decide +kernel) ⟨by decide, by decide⟩) hK hM hS rfl hl.1 rfl (Nat.le_of_ble_eq_true rfl) dX8_gaugeOf_14 ⟨by decide, by decide⟩ (fun H locs hM hS => ?_)
      refine lv_if_ne (tgt := 23) hx hb dX8_gaugeOf_17 (by decide) (fun c_17 => ?_) (fun c_17 => absurd c_17 (gx_inn (n := 8) (by omega) (by decide)))
      refine lv_iload_n hx hb dX8_gaugeOf_23 rfl (lv_at hl 2 rfl) ?_
      refine lv_bipush (v := nI 6) hx hb dX8_gaugeOf_24 (by first | rfl | decide) ?_
      refine lv_icmp_ge (tgt := 38) hx hb dX8_gaugeOf_26 (by decide) (fun c_26 => ?_) (fun c_26 => ?_)
      · refine lv_iload_n hx hb dX8_gaugeOf_38 rfl (lv_at hl 2 rfl) ?_
        refine lv_bipush (v := nI 6) hx hb dX8_gaugeOf_39 (by first | rfl | decide) ?_
        refine lv_icmp_ne (tgt := 52) hx hb dX8_gaugeOf_41 (by decide) (fun c_41 => ?_) (fun c_41 => ?_)
        · refine lv_aload_n hx hb dX8_gaugeOf_52 rfl (lv_at hl 0 rfl) ?_
          refine lv_iload_n hx hb dX8_gaugeOf_53 rfl (lv_at hl 1 rfl) ?_
          refine lv_iload_n hx hb dX8_gaugeOf_54 rfl (lv_at hl 2 rfl) ?_
          refine lv_iconst (v := nI 1) hx hb dX8_gaugeOf_55 (by first | rfl | decide) ?_
          refine lv_isub hx hb dX8_gaugeOf_56 ?_
          rw [pk_sub (a := w) (b := 1) (by have := nI_le_of (b := 6) (by omega) (by omega) c_26; omega)]
          refine m_callRI (val := σ (17 * i + (w - 1))) (As := [.int (nI i), .int (nI (w - 1))]) (rest := []) ⟨hx, hb, hml, hown, ht⟩ (k_X8_of l g A M Y σ ar ns hR i (w - 1) (by omega)) (cwV 2 ht (gU uw_650 uw_652 uw_15 uw_42 uw_653) rfl rfl rfl (by decide +kernel) ⟨by decide, by decide⟩) hK hM hS (m_recv hK hM (hR.1 Y (by omega) (by omega)) hR.2.1 rfl) rfl hl.1 rfl (Nat.le_of_ble_eq_true rfl) dX8_gaugeOf_57 ⟨by decide, by decide⟩ (fun H locs hM hS => ?_)
          subst hQ
          exact m_zret hx hb hr (rfl) hlk hK hM hS dX8_gaugeOf_60 (⟨by unfold mGaugeOf; rw [e1]; dsimp only; rw [e2]; dsimp only; exact fcM_g (nI_le_of (b := 6) (by omega) (by omega) c_26) (fun z => c_41 (by rw [z])), hMM⟩)
        · refine lv_aload_n hx hb dX8_gaugeOf_44 rfl (lv_at hl 0 rfl) ?_
          refine lv_iload_n hx hb dX8_gaugeOf_45 rfl (lv_at hl 1 rfl) ?_
          refine m_callRI (val := whM σ i) (As := [.int (nI i)]) (rest := []) ⟨hx, hb, hml, hown, ht⟩ (k_X8_wheel l g A M Y σ ar ns hR i hi hW0) (cwV 1 ht (gU uw_698 uw_700 uw_22 uw_42 uw_701) rfl rfl rfl (by decide +kernel) ⟨by decide, by decide⟩) hK hM hS (m_recv hK hM (hR.1 Y (by omega) (by omega)) hR.2.1 rfl) rfl hl.1 rfl (Nat.le_of_ble_eq_true rfl) dX8_gaugeOf_46 ⟨by decide, by decide⟩ (fun H locs hM hS => ?_)
          refine lv_goto (tgt := 60) hx hb dX8_gaugeOf_49 (by decide) ?_
          subst hQ
          exact m_zret hx hb hr (rfl) hlk hK hM hS dX8_gaugeOf_60 (⟨by unfold mGaugeOf; rw [e1]; dsimp only; rw [e2]; dsimp only; exact fcM_6 ((nI_eq (by omega) (by decide)).mp c_41), hMM⟩)
      · refine lv_aload_n hx hb dX8_gaugeOf_29 rfl (lv_at hl 0 rfl) ?_
        refine lv_iload_n hx hb dX8_gaugeOf_30 rfl (lv_at hl 1 rfl) ?_
        refine lv_iload_n hx hb dX8_gaugeOf_31 rfl (lv_at hl 2 rfl) ?_
        refine m_callRI (val := σ (17 * i + w)) (As := [.int (nI i), .int (nI w)]) (rest := []) ⟨hx, hb, hml, hown, ht⟩ (k_X8_of l g A M Y σ ar ns hR i w (by omega)) (cwV 2 ht (gU uw_650 uw_652 uw_15 uw_42 uw_653) rfl rfl rfl (by decide +kernel) ⟨by decide, by decide⟩) hK hM hS (m_recv hK hM (hR.1 Y (by omega) (by omega)) hR.2.1 rfl) rfl hl.1 rfl (Nat.le_of_ble_eq_true rfl) dX8_gaugeOf_32 ⟨by decide, by decide⟩ (fun H locs hM hS => ?_)
        refine lv_goto (tgt := 60) hx hb dX8_gaugeOf_35 (by decide) ?_
        subst hQ
        exact m_zret hx hb hr (rfl) hlk hK hM hS dX8_gaugeOf_60 (⟨by unfold mGaugeOf; rw [e1]; dsimp only; rw [e2]; dsimp only; exact fcM_l (nI_lt_of (by omega) (by decide) c_26), hMM⟩)

set_option maxHeartbeats 4000000 in
set_option maxRecDepth 100000 in
/-- ledger -/
theorem k_X8_ledger (l : Launch) (g : GG) (A : Nat → Prop) (M0 : MM) (Y : Nat) (σ : Nat → Int32) (ar : Nat → Nat → Int32) (ns : Nat → Int32) (hR : RepM g A M0 Y σ ar ns) (x y : Int32)  : Met l yX8_ledger (Uw yX8_ledger cX8_ledger 3 (Option.some ClassFile.FieldType.int)) (rmD 2) (PreM [.ref (Y), .int (x), .int (y)] g A M0) (PosI (fun r M1 => r = (mLedger σ x y) ∧ M1 = M0) g A) 0 0 A := by
  refine mk_Met (own := RX8) rfl rfl (by decide) (Nat.le_of_ble_eq_true rfl) ?_
  intro p e s m below meth c ls aa Q haa hQ hx hb hr hlk hml hown hts hK hM hS hl hnm
  obtain ⟨M, hMM⟩ : ∃ M, M = M0 := ⟨_, rfl⟩
  rw [← hMM] at hM hR
  have ht : ∀ w ∈ lw_good, w.before _ s = true := fun w h => hts w (List.mem_cons_of_mem _ h)
  have hF : FrM Y M0 M := by rw [hMM]; exact FrM.rf
  have hl : lv_has ls 3 [(0, .ref (Y)), (1, .int (x)), (2, .int (y))] := hl
  rcases gxn_cases (n := 6) (by decide) x with ⟨e1, h1⟩ | ⟨i, hi, rfl, e1⟩
  · refine lv_iload_n hx hb dX8_ledger_0 rfl (lv_at hl 1 rfl) ?_
    refine m_callRSI (val := winC (x) 0 5) (As := [.int (x)]) (rest := []) ⟨hx, hb, hml, hown, ht⟩ (k_X8_isGauge l g A M (x)) (cwS 1 ht (gUS uw_658 uw_659 uw_42 uw_660) rfl rfl rfl (by decide +kernel) ⟨by decide, by decide⟩) hK hM hS rfl hl.1 rfl (Nat.le_of_ble_eq_true rfl) dX8_ledger_1 ⟨by decide, by decide⟩ (fun H locs hM hS => ?_)
    refine lv_if_ne (tgt := 10) hx hb dX8_ledger_4 (by decide) (fun c_4 => absurd (gx_w0 e1) c_4) (fun c_4 => ?_)
    refine lv_ldc (v := (-1000001)) hx hb hown (ht _ uw_661) dX8_ledger_7 ?_
    subst hQ
    exact m_zret hx hb hr (rfl) hlk hK hM hS dX8_ledger_9 (⟨by unfold mLedger; rw [e1], hMM⟩)
  · refine lv_iload_n hx hb dX8_ledger_0 rfl (lv_at hl 1 rfl) ?_
    refine m_callRSI (val := winC (nI i) 0 5) (As := [.int (nI i)]) (rest := []) ⟨hx, hb, hml, hown, ht⟩ (k_X8_isGauge l g A M (nI i)) (cwS 1 ht (gUS uw_658 uw_659 uw_42 uw_660) rfl rfl rfl (by decide +kernel) ⟨by decide, by decide⟩) hK hM hS rfl hl.1 rfl (Nat.le_of_ble_eq_true rfl) dX8_ledger_1 ⟨by decide, by decide⟩ (fun H locs hM hS => ?_)
    refine lv_if_ne (tgt := 10) hx hb dX8_ledger_4 (by decide) (fun c_4 => ?_) (fun c_4 => absurd c_4 (gx_w1 hi))
    refine lv_iload_n hx hb dX8_ledger_10 rfl (lv_at hl 2 rfl) ?_
    by_cases s_11 : (y).toInt < 0 ∨ 7 < (y).toInt
    · refine lv_tableOut (tgt := 84) hx hb dX8_ledger_11 s_11 (by decide) ?_
      refine lv_ldc (v := (-1000002)) hx hb hown (ht _ uw_633) dX8_ledger_84 ?_
      subst hQ
      exact m_zret hx hb hr (rfl) hlk hK hM hS dX8_ledger_86 (⟨by unfold mLedger; rw [e1]; dsimp only; rw [gxn_out2 (n := 7) (by decide) s_11], hMM⟩)
    by_cases s_11_0 : (y) = 0
    · refine lv_tableIn (tgt := 56) (off := 45) hx hb dX8_ledger_11 (by rw [s_11_0]; decide) (by rw [s_11_0]; decide) (by rw [s_11_0]; rfl) (by decide) ?_
      obtain rfl : y = nI 0 := s_11_0
      refine lv_aload_n hx hb dX8_ledger_56 rfl (lv_at hl 0 rfl) ?_
      refine lv_iload_n hx hb dX8_ledger_57 rfl (lv_at hl 1 rfl) ?_
      refine lv_bipush (v := nI 8) hx hb dX8_ledger_58 (by first | rfl | decide) ?_
      refine lv_iload_n hx hb dX8_ledger_60 rfl (lv_at hl 2 rfl) ?_
      refine lv_iadd hx hb dX8_ledger_61 ?_
      rw [nI_add (8) (0)]
      refine m_callRI (val := σ (17 * i + (8 + 0))) (As := [.int (nI i), .int (nI (8 + 0))]) (rest := []) ⟨hx, hb, hml, hown, ht⟩ (k_X8_of l g A M Y σ ar ns hR i (8 + 0) (by omega)) (cwV 2 ht (gU uw_650 uw_652 uw_15 uw_42 uw_653) rfl rfl rfl (by decide +kernel) ⟨by decide, by decide⟩) hK hM hS (m_recv hK hM (hR.1 Y (by omega) (by omega)) hR.2.1 rfl) rfl hl.1 rfl (Nat.le_of_ble_eq_true rfl) dX8_ledger_62 ⟨by decide, by decide⟩ (fun H locs hM hS => ?_)
      subst hQ
      exact m_zret hx hb hr (rfl) hlk hK hM hS dX8_ledger_65 (⟨by unfold mLedger; rw [e1]; dsimp only; rw [gxn_in (n := 8) (i := 0) (by decide) (by decide)]; rfl, hMM⟩)
    by_cases s_11_1 : (y) = 1
    · refine lv_tableIn (tgt := 56) (off := 45) hx hb dX8_ledger_11 (by rw [s_11_1]; decide) (by rw [s_11_1]; decide) (by rw [s_11_1]; rfl) (by decide) ?_
      obtain rfl : y = nI 1 := s_11_1
      refine lv_aload_n hx hb dX8_ledger_56 rfl (lv_at hl 0 rfl) ?_
      refine lv_iload_n hx hb dX8_ledger_57 rfl (lv_at hl 1 rfl) ?_
      refine lv_bipush (v := nI 8) hx hb dX8_ledger_58 (by first | rfl | decide) ?_
      refine lv_iload_n hx hb dX8_ledger_60 rfl (lv_at hl 2 rfl) ?_
      refine lv_iadd hx hb dX8_ledger_61 ?_
      rw [nI_add (8) (1)]
      refine m_callRI (val := σ (17 * i + (8 + 1))) (As := [.int (nI i), .int (nI (8 + 1))]) (rest := []) ⟨hx, hb, hml, hown, ht⟩ (k_X8_of l g A M Y σ ar ns hR i (8 + 1) (by omega)) (cwV 2 ht (gU uw_650 uw_652 uw_15 uw_42 uw_653) rfl rfl rfl (by decide +kernel) ⟨by decide, by decide⟩) hK hM hS (m_recv hK hM (hR.1 Y (by omega) (by omega)) hR.2.1 rfl) rfl hl.1 rfl (Nat.le_of_ble_eq_true rfl) dX8_ledger_62 ⟨by decide, by decide⟩ (fun H locs hM hS => ?_)
      subst hQ
      exact m_zret hx hb hr (rfl) hlk hK hM hS dX8_ledger_65 (⟨by unfold mLedger; rw [e1]; dsimp only; rw [gxn_in (n := 8) (i := 1) (by decide) (by decide)]; rfl, hMM⟩)
    by_cases s_11_2 : (y) = 2
    · refine lv_tableIn (tgt := 56) (off := 45) hx hb dX8_ledger_11 (by rw [s_11_2]; decide) (by rw [s_11_2]; decide) (by rw [s_11_2]; rfl) (by decide) ?_
      obtain rfl : y = nI 2 := s_11_2
      refine lv_aload_n hx hb dX8_ledger_56 rfl (lv_at hl 0 rfl) ?_
      refine lv_iload_n hx hb dX8_ledger_57 rfl (lv_at hl 1 rfl) ?_
      refine lv_bipush (v := nI 8) hx hb dX8_ledger_58 (by first | rfl | decide) ?_
      refine lv_iload_n hx hb dX8_ledger_60 rfl (lv_at hl 2 rfl) ?_
      refine lv_iadd hx hb dX8_ledger_61 ?_
      rw [nI_add (8) (2)]
      refine m_callRI (val := σ (17 * i + (8 + 2))) (As := [.int (nI i), .int (nI (8 + 2))]) (rest := []) ⟨hx, hb, hml, hown, ht⟩ (k_X8_of l g A M Y σ ar ns hR i (8 + 2) (by omega)) (cwV 2 ht (gU uw_650 uw_652 uw_15 uw_42 uw_653) rfl rfl rfl (by decide +kernel) ⟨by decide, by decide⟩) hK hM hS (m_recv hK hM (hR.1 Y (by omega) (by omega)) hR.2.1 rfl) rfl hl.1 rfl (Nat.le_of_ble_eq_true rfl) dX8_ledger_62 ⟨by decide, by decide⟩ (fun H locs hM hS => ?_)
      subst hQ
      exact m_zret hx hb hr (rfl) hlk hK hM hS dX8_ledger_65 (⟨by unfold mLedger; rw [e1]; dsimp only; rw [gxn_in (n := 8) (i := 2) (by decide) (by decide)]; rfl, hMM⟩)
    by_cases s_11_3 : (y) = 3
    · refine lv_tableIn (tgt := 66) (off := 55) hx hb dX8_ledger_11 (by rw [s_11_3]; decide) (by rw [s_11_3]; decide) (by rw [s_11_3]; rfl) (by decide) ?_
      obtain rfl : y = nI 3 := s_11_3
      refine lv_aload_n hx hb dX8_ledger_66 rfl (lv_at hl 0 rfl) ?_
      refine lv_iload_n hx hb dX8_ledger_67 rfl (lv_at hl 1 rfl) ?_
      refine m_callRI (val := σ (17 * i + 5) - σ (17 * i + 8)) (As := [.int (nI i)]) (rest := []) ⟨hx, hb, hml, hown, ht⟩ (k_X8_gap l g A M Y σ ar ns hR i hi) (cwV 1 ht (gU uw_739 uw_741 uw_27 uw_42 uw_742) rfl rfl rfl (by decide +kernel) ⟨by decide, by decide⟩) hK hM hS (m_recv hK hM (hR.1 Y (by omega) (by omega)) hR.2.1 rfl) rfl hl.1 rfl (Nat.le_of_ble_eq_true rfl) dX8_ledger_68 ⟨by decide, by decide⟩ (fun H locs hM hS => ?_)
      subst hQ
      exact m_zret hx hb hr (rfl) hlk hK hM hS dX8_ledger_71 (⟨by unfold mLedger; rw [e1]; dsimp only; rw [gxn_in (n := 8) (i := 3) (by decide) (by decide)]; rfl, hMM⟩)
    by_cases s_11_4 : (y) = 4
    · refine lv_tableIn (tgt := 72) (off := 61) hx hb dX8_ledger_11 (by rw [s_11_4]; decide) (by rw [s_11_4]; decide) (by rw [s_11_4]; rfl) (by decide) ?_
      obtain rfl : y = nI 4 := s_11_4
      refine lv_aload_n hx hb dX8_ledger_72 rfl (lv_at hl 0 rfl) ?_
      refine lv_iload_n hx hb dX8_ledger_73 rfl (lv_at hl 1 rfl) ?_
      refine lv_bipush (v := nI 13) hx hb dX8_ledger_74 (by first | rfl | decide) ?_
      refine lv_iload_n hx hb dX8_ledger_76 rfl (lv_at hl 2 rfl) ?_
      refine lv_iadd hx hb dX8_ledger_77 ?_
      rw [nI_add (13) (4)]
      refine lv_iconst (v := nI 4) hx hb dX8_ledger_78 (by first | rfl | decide) ?_
      refine lv_isub hx hb dX8_ledger_79 ?_
      rw [pk_sub (a := (13 + 4)) (b := 4) (by omega)]
      refine m_callRI (val := σ (17 * i + ((13 + 4) - 4))) (As := [.int (nI i), .int (nI ((13 + 4) - 4))]) (rest := []) ⟨hx, hb, hml, hown, ht⟩ (k_X8_of l g A M Y σ ar ns hR i ((13 + 4) - 4) (by omega)) (cwV 2 ht (gU uw_650 uw_652 uw_15 uw_42 uw_653) rfl rfl rfl (by decide +kernel) ⟨by decide, by decide⟩) hK hM hS (m_recv hK hM (hR.1 Y (by omega) (by omega)) hR.2.1 rfl) rfl hl.1 rfl (Nat.le_of_ble_eq_true rfl) dX8_ledger_80 ⟨by decide, by decide⟩ (fun H locs hM hS => ?_)
      subst hQ
      exact m_zret hx hb hr (rfl) hlk hK hM hS dX8_ledger_83 (⟨by unfold mLedger; rw [e1]; dsimp only; rw [gxn_in (n := 8) (i := 4) (by decide) (by decide)]; rfl, hMM⟩)
    by_cases s_11_5 : (y) = 5
    · refine lv_tableIn (tgt := 72) (off := 61) hx hb dX8_ledger_11 (by rw [s_11_5]; decide) (by rw [s_11_5]; decide) (by rw [s_11_5]; rfl) (by decide) ?_
      obtain rfl : y = nI 5 := s_11_5
      refine lv_aload_n hx hb dX8_ledger_72 rfl (lv_at hl 0 rfl) ?_
      refine lv_iload_n hx hb dX8_ledger_73 rfl (lv_at hl 1 rfl) ?_
      refine lv_bipush (v := nI 13) hx hb dX8_ledger_74 (by first | rfl | decide) ?_
      refine lv_iload_n hx hb dX8_ledger_76 rfl (lv_at hl 2 rfl) ?_
      refine lv_iadd hx hb dX8_ledger_77 ?_
      rw [nI_add (13) (5)]
      refine lv_iconst (v := nI 4) hx hb dX8_ledger_78 (by first | rfl | decide) ?_
      refine lv_isub hx hb dX8_ledger_79 ?_
      rw [pk_sub (a := (13 + 5)) (b := 4) (by omega)]
      refine m_callRI (val := σ (17 * i + ((13 + 5) - 4))) (As := [.int (nI i), .int (nI ((13 + 5) - 4))]) (rest := []) ⟨hx, hb, hml, hown, ht⟩ (k_X8_of l g A M Y σ ar ns hR i ((13 + 5) - 4) (by omega)) (cwV 2 ht (gU uw_650 uw_652 uw_15 uw_42 uw_653) rfl rfl rfl (by decide +kernel) ⟨by decide, by decide⟩) hK hM hS (m_recv hK hM (hR.1 Y (by omega) (by omega)) hR.2.1 rfl) rfl hl.1 rfl (Nat.le_of_ble_eq_true rfl) dX8_ledger_80 ⟨by decide, by decide⟩ (fun H locs hM hS => ?_)
      subst hQ
      exact m_zret hx hb hr (rfl) hlk hK hM hS dX8_ledger_83 (⟨by unfold mLedger; rw [e1]; dsimp only; rw [gxn_in (n := 8) (i := 5) (by decide) (by decide)]; rfl, hMM⟩)
    by_cases s_11_6 : (y) = 6
    · refine lv_tableIn (tgt := 72) (off := 61) hx hb dX8_ledger_11 (by rw [s_11_6]; decide) (by rw [s_11_6]; decide) (by rw [s_11_6]; rfl) (by decide) ?_
      obtain rfl : y = nI 6 := s_11_6
      refine lv_aload_n hx hb dX8_ledger_72 rfl (lv_at hl 0 rfl) ?_
      refine lv_iload_n hx hb dX8_ledger_73 rfl (lv_at hl 1 rfl) ?_
      refine lv_bipush (v := nI 13) hx hb dX8_ledger_74 (by first | rfl | decide) ?_
      refine lv_iload_n hx hb dX8_ledger_76 rfl (lv_at hl 2 rfl) ?_
      refine lv_iadd hx hb dX8_ledger_77 ?_
      rw [nI_add (13) (6)]
      refine lv_iconst (v := nI 4) hx hb dX8_ledger_78 (by first | rfl | decide) ?_
      refine lv_isub hx hb dX8_ledger_79 ?_
      rw [pk_sub (a := (13 + 6)) (b := 4) (by omega)]
      refine m_callRI (val := σ (17 * i + ((13 + 6) - 4))) (As := [.int (nI i), .int (nI ((13 + 6) - 4))]) (rest := []) ⟨hx, hb, hml, hown, ht⟩ (k_X8_of l g A M Y σ ar ns hR i ((13 + 6) - 4) (by omega)) (cwV 2 ht (gU uw_650 uw_652 uw_15 uw_42 uw_653) rfl rfl rfl (by decide +kernel) ⟨by decide, by decide⟩) hK hM hS (m_recv hK hM (hR.1 Y (by omega) (by omega)) hR.2.1 rfl) rfl hl.1 rfl (Nat.le_of_ble_eq_true rfl) dX8_ledger_80 ⟨by decide, by decide⟩ (fun H locs hM hS => ?_)
      subst hQ
      exact m_zret hx hb hr (rfl) hlk hK hM hS dX8_ledger_83 (⟨by unfold mLedger; rw [e1]; dsimp only; rw [gxn_in (n := 8) (i := 6) (by decide) (by decide)]; rfl, hMM⟩)
    by_cases s_11_7 : (y) = 7
    · refine lv_tableIn (tgt := 72) (off := 61) hx hb dX8_ledger_11 (by rw [s_11_7]; decide) (by rw [s_11_7]; decide) (by rw [s_11_7]; rfl) (by decide) ?_
      obtain rfl : y = nI 7 := s_11_7
      refine lv_aload_n hx hb dX8_ledger_72 rfl (lv_at hl 0 rfl) ?_
      refine lv_iload_n hx hb dX8_ledger_73 rfl (lv_at hl 1 rfl) ?_
      refine lv_bipush (v := nI 13) hx hb dX8_ledger_74 (by first | rfl | decide) ?_
      refine lv_iload_n hx hb dX8_ledger_76 rfl (lv_at hl 2 rfl) ?_
      refine lv_iadd hx hb dX8_ledger_77 ?_
      rw [nI_add (13) (7)]
      refine lv_iconst (v := nI 4) hx hb dX8_ledger_78 (by first | rfl | decide) ?_
      refine lv_isub hx hb dX8_ledger_79 ?_
      rw [pk_sub (a := (13 + 7)) (b := 4) (by omega)]
      refine m_callRI (val := σ (17 * i + ((13 + 7) - 4))) (As := [.int (nI i), .int (nI ((13 + 7) - 4))]) (rest := []) ⟨hx, hb, hml, hown, ht⟩ (k_X8_of l g A M Y σ ar ns hR i ((13 + 7) - 4) (by omega)) (cwV 2 ht (gU uw_650 uw_652 uw_15 uw_42 uw_653) rfl rfl rfl (by decide +kernel) ⟨by decide, by decide⟩) hK hM hS (m_recv hK hM (hR.1 Y (by omega) (by omega)) hR.2.1 rfl) rfl hl.1 rfl (Nat.le_of_ble_eq_true rfl) dX8_ledger_80 ⟨by decide, by decide⟩ (fun H locs hM hS => ?_)
      subst hQ
      exact m_zret hx hb hr (rfl) hlk hK hM hS dX8_ledger_83 (⟨by unfold mLedger; rw [e1]; dsimp only; rw [gxn_in (n := 8) (i := 7) (by decide) (by decide)]; rfl, hMM⟩)
    exfalso
    have n_0 := lv_neT (a := 0) s_11_0 (by decide)
    have n_1 := lv_neT (a := 1) s_11_1 (by decide)
    have n_2 := lv_neT (a := 2) s_11_2 (by decide)
    have n_3 := lv_neT (a := 3) s_11_3 (by decide)
    have n_4 := lv_neT (a := 4) s_11_4 (by decide)
    have n_5 := lv_neT (a := 5) s_11_5 (by decide)
    have n_6 := lv_neT (a := 6) s_11_6 (by decide)
    have n_7 := lv_neT (a := 7) s_11_7 (by decide)
    omega

set_option maxHeartbeats 4000000 in
set_option maxRecDepth 100000 in
/-- runner -/
theorem k_X8_runner (l : Launch) (g : GG) (A : Nat → Prop) (M0 : MM) (Y : Nat) (σ : Nat → Int32) (ar : Nat → Nat → Int32) (ns : Nat → Int32) (hR : RepM g A M0 Y σ ar ns) (n : Nat) (hn : σ 105 = nI n) (hn20 : n ≤ 20) (hT : TI σ n) (x y : Int32)  : Met l yX8_runner (Uw yX8_runner cX8_runner 3 (Option.some ClassFile.FieldType.int)) (rmD 2) (PreM [.ref (Y), .int (x), .int (y)] g A M0) (PosI (fun r M1 => r = (mRunner n σ x y) ∧ M1 = M0) g A) 0 0 A := by
  refine mk_Met (own := RX8) rfl rfl (by decide) (Nat.le_of_ble_eq_true rfl) ?_
  intro p e s m below meth c ls aa Q haa hQ hx hb hr hlk hml hown hts hK hM hS hl hnm
  obtain ⟨M, hMM⟩ : ∃ M, M = M0 := ⟨_, rfl⟩
  rw [← hMM] at hM hR
  have ht : ∀ w ∈ lw_good, w.before _ s = true := fun w h => hts w (List.mem_cons_of_mem _ h)
  have hF : FrM Y M0 M := by rw [hMM]; exact FrM.rf
  have hl : lv_has ls 3 [(0, .ref (Y)), (1, .int (x)), (2, .int (y))] := hl
  rcases rx_cases hn20 x with ⟨e1, h1⟩ | ⟨j, hj, rfl, e1, h1⟩
  · refine lv_iload_n hx hb dX8_runner_0 rfl (lv_at hl 1 rfl) ?_
    refine lv_iconst (v := nI 0) hx hb dX8_runner_1 (by first | rfl | decide) ?_
    refine lv_aload_n hx hb dX8_runner_2 rfl (lv_at hl 0 rfl) ?_
    refine rm_getS hx hb ht ui_X8 hown hK hM hR (ht _ uw_594) dX8_runner_3 ?_
    refine lv_bipush (v := nI 105) hx hb dX8_runner_6 (by first | rfl | decide) ?_
    refine rm_sald hx hb hK hM hR (i := 105) (by omega) dX8_runner_8 ?_
    rw [hn]
    refine lv_iconst (v := 1) hx hb dX8_runner_9 (by first | rfl | decide) ?_
    refine lv_isub hx hb dX8_runner_10 ?_
    refine m_callRSI (val := winC (x) (nI 0) (nI n - 1)) (As := [.int (x), .int (nI 0), .int (nI n - 1)]) (rest := []) ⟨hx, hb, hml, hown, ht⟩ (k_X8_in l g A M (x) (nI 0) (nI n - 1)) (cwS 3 ht (gUS uw_630 uw_631 uw_42 uw_632) rfl rfl rfl (by decide +kernel) ⟨by decide, by decide⟩) hK hM hS rfl hl.1 rfl (Nat.le_of_ble_eq_true rfl) dX8_runner_11 ⟨by decide, by decide⟩ (fun H locs hM hS => ?_)
    refine lv_if_ne (tgt := 20) hx hb dX8_runner_14 (by decide) (fun c_14 => absurd (h1) c_14) (fun c_14 => ?_)
    refine lv_ldc (v := (-1000001)) hx hb hown (ht _ uw_661) dX8_runner_17 ?_
    subst hQ
    exact m_zret hx hb hr (rfl) hlk hK hM hS dX8_runner_19 (⟨by unfold mRunner; rw [e1], hMM⟩)
  · refine lv_iload_n hx hb dX8_runner_0 rfl (lv_at hl 1 rfl) ?_
    refine lv_iconst (v := nI 0) hx hb dX8_runner_1 (by first | rfl | decide) ?_
    refine lv_aload_n hx hb dX8_runner_2 rfl (lv_at hl 0 rfl) ?_
    refine rm_getS hx hb ht ui_X8 hown hK hM hR (ht _ uw_594) dX8_runner_3 ?_
    refine lv_bipush (v := nI 105) hx hb dX8_runner_6 (by first | rfl | decide) ?_
    refine rm_sald hx hb hK hM hR (i := 105) (by omega) dX8_runner_8 ?_
    rw [hn]
    refine lv_iconst (v := 1) hx hb dX8_runner_9 (by first | rfl | decide) ?_
    refine lv_isub hx hb dX8_runner_10 ?_
    refine m_callRSI (val := winC (nI j) (nI 0) (nI n - 1)) (As := [.int (nI j), .int (nI 0), .int (nI n - 1)]) (rest := []) ⟨hx, hb, hml, hown, ht⟩ (k_X8_in l g A M (nI j) (nI 0) (nI n - 1)) (cwS 3 ht (gUS uw_630 uw_631 uw_42 uw_632) rfl rfl rfl (by decide +kernel) ⟨by decide, by decide⟩) hK hM hS rfl hl.1 rfl (Nat.le_of_ble_eq_true rfl) dX8_runner_11 ⟨by decide, by decide⟩ (fun H locs hM hS => ?_)
    refine lv_if_ne (tgt := 20) hx hb dX8_runner_14 (by decide) (fun c_14 => ?_) (fun c_14 => absurd c_14 (h1))
    rcases run_cases y with ⟨e2, h2, h3⟩ | ⟨rfl, h2⟩ | ⟨w, hw, rfl⟩
    · refine lv_iload_n hx hb dX8_runner_20 rfl (lv_at hl 2 rfl) ?_
      refine lv_iconst (v := nI 0) hx hb dX8_runner_21 (by first | rfl | decide) ?_
      refine lv_iconst (v := nI 2) hx hb dX8_runner_22 (by first | rfl | decide) ?_
      refine m_callRSI (val := winC (y) (nI 0) (nI 2)) (As := [.int (y), .int (nI 0), .int (nI 2)]) (rest := []) ⟨hx, hb, hml, hown, ht⟩ (k_X8_in l g A M (y) (nI 0) (nI 2)) (cwS 3 ht (gUS uw_630 uw_631 uw_42 uw_632) rfl rfl rfl (by decide +kernel) ⟨by decide, by decide⟩) hK hM hS rfl hl.1 rfl (Nat.le_of_ble_eq_true rfl) dX8_runner_23 ⟨by decide, by decide⟩ (fun H locs hM hS => ?_)
      refine lv_if_eq (tgt := 38) hx hb dX8_runner_26 (by decide) (fun c_26 => ?_) (fun c_26 => absurd (h2) c_26)
      refine lv_iload_n hx hb dX8_runner_38 rfl (lv_at hl 2 rfl) ?_
      refine lv_iconst (v := nI 3) hx hb dX8_runner_39 (by first | rfl | decide) ?_
      refine lv_icmp_ne (tgt := 60) hx hb dX8_runner_40 (by decide) (fun c_40 => ?_) (fun c_40 => absurd c_40 (h3))
      refine lv_ldc (v := (-1000002)) hx hb hown (ht _ uw_633) dX8_runner_60 ?_
      subst hQ
      exact m_zret hx hb hr (rfl) hlk hK hM hS dX8_runner_62 (⟨by unfold mRunner; rw [e1]; dsimp only; rw [e2], hMM⟩)
    · refine lv_iload_n hx hb dX8_runner_20 rfl (lv_at hl 2 rfl) ?_
      refine lv_iconst (v := nI 0) hx hb dX8_runner_21 (by first | rfl | decide) ?_
      refine lv_iconst (v := nI 2) hx hb dX8_runner_22 (by first | rfl | decide) ?_
      refine m_callRSI (val := winC (nI 3) (nI 0) (nI 2)) (As := [.int (nI 3), .int (nI 0), .int (nI 2)]) (rest := []) ⟨hx, hb, hml, hown, ht⟩ (k_X8_in l g A M (nI 3) (nI 0) (nI 2)) (cwS 3 ht (gUS uw_630 uw_631 uw_42 uw_632) rfl rfl rfl (by decide +kernel) ⟨by decide, by decide⟩) hK hM hS rfl hl.1 rfl (Nat.le_of_ble_eq_true rfl) dX8_runner_23 ⟨by decide, by decide⟩ (fun H locs hM hS => ?_)
      refine lv_if_eq (tgt := 38) hx hb dX8_runner_26 (by decide) (fun c_26 => ?_) (fun c_26 => absurd (h2) c_26)
      refine lv_iload_n hx hb dX8_runner_38 rfl (lv_at hl 2 rfl) ?_
      refine lv_iconst (v := nI 3) hx hb dX8_runner_39 (by first | rfl | decide) ?_
      refine lv_icmp_ne (tgt := 60) hx hb dX8_runner_40 (by decide) (fun c_40 => absurd (rfl) c_40) (fun c_40 => ?_)
      refine lv_aload_n hx hb dX8_runner_43 rfl (lv_at hl 0 rfl) ?_
      refine lv_iload_n hx hb dX8_runner_44 rfl (lv_at hl 1 rfl) ?_
      refine lv_iconst (v := nI 3) hx hb dX8_runner_45 (by first | rfl | decide) ?_
      refine m_callRI (val := σ (106 + 6 * j + 3)) (As := [.int (nI j), .int (nI 3)]) (rest := []) ⟨hx, hb, hml, hown, ht⟩ (k_X8_runnerOf l g A M Y σ ar ns hR j 3 (by omega)) (cwV 2 ht (gU uw_638 uw_640 uw_12 uw_42 uw_641) rfl rfl rfl (by decide +kernel) ⟨by decide, by decide⟩) hK hM hS (m_recv hK hM (hR.1 Y (by omega) (by omega)) hR.2.1 rfl) rfl hl.1 rfl (Nat.le_of_ble_eq_true rfl) dX8_runner_46 ⟨by decide, by decide⟩ (fun H locs hM hS => ?_)
      refine lv_aload_n hx hb dX8_runner_49 rfl (lv_at hl 0 rfl) ?_
      refine rm_getS hx hb ht ui_X8 hown hK hM hR (ht _ uw_594) dX8_runner_50 ?_
      refine lv_bipush (v := nI 104) hx hb dX8_runner_53 (by first | rfl | decide) ?_
      refine rm_sald hx hb hK hM hR (i := 104) (by omega) dX8_runner_55 ?_
      refine lv_isub hx hb dX8_runner_56 ?_
      refine lv_goto (tgt := 62) hx hb dX8_runner_57 (by decide) ?_
      subst hQ
      exact m_zret hx hb hr (rfl) hlk hK hM hS dX8_runner_62 (⟨by unfold mRunner; rw [e1]; dsimp only; rw [gxn_in (n := 4) (i := 3) (by decide) (by decide)]; rfl, hMM⟩)
    · refine lv_iload_n hx hb dX8_runner_20 rfl (lv_at hl 2 rfl) ?_
      refine lv_iconst (v := nI 0) hx hb dX8_runner_21 (by first | rfl | decide) ?_
      refine lv_iconst (v := nI 2) hx hb dX8_runner_22 (by first | rfl | decide) ?_
      refine m_callRSI (val := winC (nI w) (nI 0) (nI 2)) (As := [.int (nI w), .int (nI 0), .int (nI 2)]) (rest := []) ⟨hx, hb, hml, hown, ht⟩ (k_X8_in l g A M (nI w) (nI 0) (nI 2)) (cwS 3 ht (gUS uw_630 uw_631 uw_42 uw_632) rfl rfl rfl (by decide +kernel) ⟨by decide, by decide⟩) hK hM hS rfl hl.1 rfl (Nat.le_of_ble_eq_true rfl) dX8_runner_23 ⟨by decide, by decide⟩ (fun H locs hM hS => ?_)
      refine lv_if_eq (tgt := 38) hx hb dX8_runner_26 (by decide) (fun c_26 => absurd c_26 (gx_inn (n := 2) (by omega) (by decide))) (fun c_26 => ?_)
      refine lv_aload_n hx hb dX8_runner_29 rfl (lv_at hl 0 rfl) ?_
      refine lv_iload_n hx hb dX8_runner_30 rfl (lv_at hl 1 rfl) ?_
      refine lv_iload_n hx hb dX8_runner_31 rfl (lv_at hl 2 rfl) ?_
      refine m_callRI (val := σ (106 + 6 * j + w)) (As := [.int (nI j), .int (nI w)]) (rest := []) ⟨hx, hb, hml, hown, ht⟩ (k_X8_runnerOf l g A M Y σ ar ns hR j w (by omega)) (cwV 2 ht (gU uw_638 uw_640 uw_12 uw_42 uw_641) rfl rfl rfl (by decide +kernel) ⟨by decide, by decide⟩) hK hM hS (m_recv hK hM (hR.1 Y (by omega) (by omega)) hR.2.1 rfl) rfl hl.1 rfl (Nat.le_of_ble_eq_true rfl) dX8_runner_32 ⟨by decide, by decide⟩ (fun H locs hM hS => ?_)
      refine lv_goto (tgt := 62) hx hb dX8_runner_35 (by decide) ?_
      subst hQ
      exact m_zret hx hb hr (rfl) hlk hK hM hS dX8_runner_62 (⟨by unfold mRunner; rw [e1]; dsimp only; rw [gxn_in (n := 4) (i := w) (by omega) (by decide)]; dsimp only; rw [if_neg (show ¬ w = 3 by omega)], hMM⟩)

set_option maxHeartbeats 4000000 in
set_option maxRecDepth 100000 in
/-- all -/
theorem k_X8_all (l : Launch) (g : GG) (A : Nat → Prop) (M0 : MM) (Y : Nat) (σ : Nat → Int32) (ar : Nat → Nat → Int32) (ns : Nat → Int32) (hR : RepM g A M0 Y σ ar ns) (w : Nat) (hw : w < 17)  : Met l yX8_all (Uw yX8_all cX8_all 4 (Option.some ClassFile.FieldType.int)) (rmD 1) (PreM [.ref (Y), .int (nI w)] g A M0) (PosI (fun r M1 => r = (sumN (fun z => σ (17 * z + w)) 6) ∧ M1 = M0) g A) 0 0 A := by
  refine mk_Met (own := RX8) rfl rfl (by decide) (Nat.le_of_ble_eq_true rfl) ?_
  intro p e s m below meth c ls aa Q haa hQ hx hb hr hlk hml hown hts hK hM hS hl hnm
  obtain ⟨M, hMM⟩ : ∃ M, M = M0 := ⟨_, rfl⟩
  rw [← hMM] at hM hR
  have ht : ∀ w ∈ lw_good, w.before _ s = true := fun w h => hts w (List.mem_cons_of_mem _ h)
  have hF : FrM Y M0 M := by rw [hMM]; exact FrM.rf
  have hl : lv_has ls 4 [(0, .ref (Y)), (1, .int (nI w))] := hl
  refine lv_iconst (v := nI 0) hx hb dX8_all_0 (by first | rfl | decide) ?_
  refine lv_istore_n (lv' := [(2, .int (nI 0)), (0, .ref (Y)), (1, .int (nI w))]) hx hb dX8_all_1 rfl hl (by decide) rfl (fun ls hl => ?_)
  refine lv_iconst (v := nI 0) hx hb dX8_all_2 (by first | rfl | decide) ?_
  refine lv_istore_n (lv' := [(3, .int (nI 0)), (2, .int (nI 0)), (0, .ref (Y)), (1, .int (nI w))]) hx hb dX8_all_3 rfl hl (by decide) rfl (fun ls hl => ?_)
  have loop_4 : ∀ (z_4 : Nat) (q9 : Nat) (t9 : Int32) (H : Heap) (locs : List Loc) (ls : Array Slot), 6 - q9 < z_4 → q9 ≤ 6 → t9 = sumN (fun z => σ (17 * z + w)) q9 → HD g A M H → va_S A s.heap H locs → lv_has ls 4 [(3, .int (nI q9)), (2, .int (t9)), (0, .ref (Y)), (1, .int (nI w))] → W p l e (rmD 1) s m aa below meth c H locs 0 0 Q (F0 m 4 ls []) := by
    intro z_4
    induction z_4 with
    | zero => intro q9 t9 H locs ls hz hq9 ht9; exact absurd hz (Nat.not_lt_zero _)
    | succ z_4 ih_4 =>
    intro q9 t9 H locs ls hz hq9 ht9 hM  hS hl
    refine lv_iload_n hx hb dX8_all_4 rfl (lv_at hl 0 rfl) ?_
    refine lv_bipush (v := nI 6) hx hb dX8_all_5 (by first | rfl | decide) ?_
    refine lv_icmp_ge (tgt := 25) hx hb dX8_all_7 (by decide) (fun c_7 => ?_) (fun c_7 => ?_)
    · have hq6 : q9 = 6 := Nat.le_antisymm hq9 (nI_le_of (by omega) (by decide) c_7)
      subst hq6
      refine lv_iload_n hx hb dX8_all_25 rfl (lv_at hl 1 rfl) ?_
      subst hQ
      exact m_zret hx hb hr (rfl) hlk hK hM hS dX8_all_26 (⟨ht9, hMM⟩)
    · have hq6 : q9 < 6 := nI_lt_of (by omega) (by decide) c_7
      refine lv_iload_n hx hb dX8_all_10 rfl (lv_at hl 1 rfl) ?_
      refine lv_aload_n hx hb dX8_all_11 rfl (lv_at hl 2 rfl) ?_
      refine lv_iload_n hx hb dX8_all_12 rfl (lv_at hl 0 rfl) ?_
      refine lv_iload_n hx hb dX8_all_13 rfl (lv_at hl 3 rfl) ?_
      refine m_callRI (val := σ (17 * q9 + w)) (As := [.int (nI q9), .int (nI w)]) (rest := [.int (t9)]) ⟨hx, hb, hml, hown, ht⟩ (k_X8_of l g A M Y σ ar ns hR q9 w (by omega)) (cwV 2 ht (gU uw_650 uw_652 uw_15 uw_42 uw_653) rfl rfl rfl (by decide +kernel) ⟨by decide, by decide⟩) hK hM hS (m_recv hK hM (hR.1 Y (by omega) (by omega)) hR.2.1 rfl) rfl hl.1 rfl (Nat.le_of_ble_eq_true rfl) dX8_all_14 ⟨by decide, by decide⟩ (fun H locs hM hS => ?_)
      refine lv_iadd hx hb dX8_all_17 ?_
      refine lv_istore_n (lv' := [(2, .int ((t9) + (σ (17 * q9 + w)))), (3, .int (nI q9)), (0, .ref (Y)), (1, .int (nI w))]) hx hb dX8_all_18 rfl hl (by decide) rfl (fun ls hl => ?_)
      refine lv_iinc (v := nI (q9 + 1)) (lv' := [(3, .int (nI (q9 + 1))), (2, .int ((t9) + (σ (17 * q9 + w)))), (0, .ref (Y)), (1, .int (nI w))]) hx hb dX8_all_19 hl (k := 1) rfl (nI_1 _) (by decide) rfl (fun ls hl => ?_)
      refine lv_goto (tgt := 4) hx hb dX8_all_22 (by decide) ?_
      exact ih_4 (q9 + 1) ((t9) + (σ (17 * q9 + w))) _ _ _ (by omega) (by omega) (by rw [ht9]; rfl) hM hS (lv_sub hl [0, 1, 2, 3] rfl)
  exact loop_4 _ 0 (nI 0) _ _ _ (Nat.lt_succ_self _) (by omega) rfl hM hS (lv_sub hl [0, 1, 2, 3] rfl)

set_option maxHeartbeats 4000000 in
set_option maxRecDepth 100000 in
/-- gaps -/
theorem k_X8_gaps (l : Launch) (g : GG) (A : Nat → Prop) (M0 : MM) (Y : Nat) (σ : Nat → Int32) (ar : Nat → Nat → Int32) (ns : Nat → Int32) (hR : RepM g A M0 Y σ ar ns)  : Met l yX8_gaps (Uw yX8_gaps cX8_gaps 3 (Option.some ClassFile.FieldType.int)) (rmD 2) (PreM [.ref (Y)] g A M0) (PosI (fun r M1 => r = (gpsM σ 6) ∧ M1 = M0) g A) 0 0 A := by
  refine mk_Met (own := RX8) rfl rfl (by decide) (Nat.le_of_ble_eq_true rfl) ?_
  intro p e s m below meth c ls aa Q haa hQ hx hb hr hlk hml hown hts hK hM hS hl hnm
  obtain ⟨M, hMM⟩ : ∃ M, M = M0 := ⟨_, rfl⟩
  rw [← hMM] at hM hR
  have ht : ∀ w ∈ lw_good, w.before _ s = true := fun w h => hts w (List.mem_cons_of_mem _ h)
  have hF : FrM Y M0 M := by rw [hMM]; exact FrM.rf
  have hl : lv_has ls 3 [(0, .ref (Y))] := hl
  refine lv_iconst (v := nI 0) hx hb dX8_gaps_0 (by first | rfl | decide) ?_
  refine lv_istore_n (lv' := [(1, .int (nI 0)), (0, .ref (Y))]) hx hb dX8_gaps_1 rfl hl (by decide) rfl (fun ls hl => ?_)
  refine lv_iconst (v := nI 0) hx hb dX8_gaps_2 (by first | rfl | decide) ?_
  refine lv_istore_n (lv' := [(2, .int (nI 0)), (1, .int (nI 0)), (0, .ref (Y))]) hx hb dX8_gaps_3 rfl hl (by decide) rfl (fun ls hl => ?_)
  have loop_4 : ∀ (z_4 : Nat) (q9 : Nat) (t9 : Int32) (H : Heap) (locs : List Loc) (ls : Array Slot), 6 - q9 < z_4 → q9 ≤ 6 → t9 = gpsM σ q9 → HD g A M H → va_S A s.heap H locs → lv_has ls 3 [(2, .int (nI q9)), (1, .int (t9)), (0, .ref (Y))] → W p l e (rmD 2) s m aa below meth c H locs 0 0 Q (F0 m 4 ls []) := by
    intro z_4
    induction z_4 with
    | zero => intro q9 t9 H locs ls hz hq9 ht9; exact absurd hz (Nat.not_lt_zero _)
    | succ z_4 ih_4 =>
    intro q9 t9 H locs ls hz hq9 ht9 hM  hS hl
    refine lv_iload_n hx hb dX8_gaps_4 rfl (lv_at hl 0 rfl) ?_
    refine lv_bipush (v := nI 6) hx hb dX8_gaps_5 (by first | rfl | decide) ?_
    refine lv_icmp_ge (tgt := 32) hx hb dX8_gaps_7 (by decide) (fun c_7 => ?_) (fun c_7 => ?_)
    · have hq6 : q9 = 6 := Nat.le_antisymm hq9 (nI_le_of (by omega) (by decide) c_7)
      subst hq6
      refine lv_iload_n hx hb dX8_gaps_32 rfl (lv_at hl 1 rfl) ?_
      subst hQ
      exact m_zret hx hb hr (rfl) hlk hK hM hS dX8_gaps_33 (⟨ht9, hMM⟩)
    · have hq6 : q9 < 6 := nI_lt_of (by omega) (by decide) c_7
      refine lv_iload_n hx hb dX8_gaps_10 rfl (lv_at hl 1 rfl) ?_
      refine lv_aload_n hx hb dX8_gaps_11 rfl (lv_at hl 2 rfl) ?_
      refine lv_iload_n hx hb dX8_gaps_12 rfl (lv_at hl 0 rfl) ?_
      refine m_callRI (val := σ (17 * q9 + 5) - σ (17 * q9 + 8)) (As := [.int (nI q9)]) (rest := [.int (t9)]) ⟨hx, hb, hml, hown, ht⟩ (k_X8_gap l g A M Y σ ar ns hR q9 hq6) (cwV 1 ht (gU uw_739 uw_741 uw_27 uw_42 uw_742) rfl rfl rfl (by decide +kernel) ⟨by decide, by decide⟩) hK hM hS (m_recv hK hM (hR.1 Y (by omega) (by omega)) hR.2.1 rfl) rfl hl.1 rfl (Nat.le_of_ble_eq_true rfl) dX8_gaps_13 ⟨by decide, by decide⟩ (fun H locs hM hS => ?_)
      refine lv_if_ne (tgt := 23) hx hb dX8_gaps_16 (by decide) (fun c_16 => ?_) (fun c_16 => ?_)
      · refine lv_iconst (v := nI 1) hx hb dX8_gaps_23 (by first | rfl | decide) ?_
        refine lv_iadd hx hb dX8_gaps_24 ?_
        refine lv_istore_n (lv' := [(1, .int ((t9) + (nI 1))), (2, .int (nI q9)), (0, .ref (Y))]) hx hb dX8_gaps_25 rfl hl (by decide) rfl (fun ls hl => ?_)
        refine lv_iinc (v := nI (q9 + 1)) (lv' := [(2, .int (nI (q9 + 1))), (1, .int ((t9) + (nI 1))), (0, .ref (Y))]) hx hb dX8_gaps_26 hl (k := 1) rfl (nI_1 _) (by decide) rfl (fun ls hl => ?_)
        refine lv_goto (tgt := 4) hx hb dX8_gaps_29 (by decide) ?_
        exact ih_4 (q9 + 1) ((t9) + (nI 1)) _ _ _ (by omega) (by omega) (by rw [ht9]; exact (gpsM_1 c_16).symm) hM hS (lv_sub hl [0, 1, 2] rfl)
      · refine lv_iconst (v := nI 0) hx hb dX8_gaps_19 (by first | rfl | decide) ?_
        refine lv_goto (tgt := 24) hx hb dX8_gaps_20 (by decide) ?_
        refine lv_iadd hx hb dX8_gaps_24 ?_
        refine lv_istore_n (lv' := [(1, .int ((t9) + (nI 0))), (2, .int (nI q9)), (0, .ref (Y))]) hx hb dX8_gaps_25 rfl hl (by decide) rfl (fun ls hl => ?_)
        refine lv_iinc (v := nI (q9 + 1)) (lv' := [(2, .int (nI (q9 + 1))), (1, .int ((t9) + (nI 0))), (0, .ref (Y))]) hx hb dX8_gaps_26 hl (k := 1) rfl (nI_1 _) (by decide) rfl (fun ls hl => ?_)
        refine lv_goto (tgt := 4) hx hb dX8_gaps_29 (by decide) ?_
        exact ih_4 (q9 + 1) ((t9) + (nI 0)) _ _ _ (by omega) (by omega) (by rw [ht9]; exact (gpsM_0 c_16).symm) hM hS (lv_sub hl [0, 1, 2] rfl)
  exact loop_4 _ 0 (nI 0) _ _ _ (Nat.lt_succ_self _) (by omega) rfl hM hS (lv_sub hl [0, 1, 2] rfl)

set_option maxHeartbeats 4000000 in
set_option maxRecDepth 100000 in
/-- count -/
theorem k_X8_count (l : Launch) (g : GG) (A : Nat → Prop) (M0 : MM) (Y : Nat) (σ : Nat → Int32) (ar : Nat → Nat → Int32) (ns : Nat → Int32) (hR : RepM g A M0 Y σ ar ns) (x : Int32)  : Met l yX8_count (Uw yX8_count cX8_count 2 (Option.some ClassFile.FieldType.int)) (rmD 3) (PreM [.ref (Y), .int (x)] g A M0) (PosI (fun r M1 => r = (mCount σ ns x) ∧ M1 = M0) g A) 0 0 A := by
  refine mk_Met (own := RX8) rfl rfl (by decide) (Nat.le_of_ble_eq_true rfl) ?_
  intro p e s m below meth c ls aa Q haa hQ hx hb hr hlk hml hown hts hK hM hS hl hnm
  obtain ⟨M, hMM⟩ : ∃ M, M = M0 := ⟨_, rfl⟩
  rw [← hMM] at hM hR
  have ht : ∀ w ∈ lw_good, w.before _ s = true := fun w h => hts w (List.mem_cons_of_mem _ h)
  have hF : FrM Y M0 M := by rw [hMM]; exact FrM.rf
  have hl : lv_has ls 2 [(0, .ref (Y)), (1, .int (x))] := hl
  refine lv_iload_n hx hb dX8_count_0 rfl (lv_at hl 1 rfl) ?_
  by_cases s_1 : (x).toInt < 0 ∨ 10 < (x).toInt
  · refine lv_tableOut (tgt := 118) hx hb dX8_count_1 s_1 (by decide) ?_
    refine lv_ldc (v := (-1000002)) hx hb hown (ht _ uw_633) dX8_count_118 ?_
    subst hQ
    exact m_zret hx hb hr (rfl) hlk hK hM hS dX8_count_120 (⟨by unfold mCount; rw [gxn_out2 (n := 10) (by decide) s_1], hMM⟩)
  by_cases s_1_0 : (x) = 0
  · refine lv_tableIn (tgt := 60) (off := 59) hx hb dX8_count_1 (by rw [s_1_0]; decide) (by rw [s_1_0]; decide) (by rw [s_1_0]; rfl) (by decide) ?_
    obtain rfl : x = nI 0 := s_1_0
    refine lv_aload_n hx hb dX8_count_60 rfl (lv_at hl 0 rfl) ?_
    refine rm_getS hx hb ht ui_X8 hown hK hM hR (ht _ uw_594) dX8_count_61 ?_
    refine lv_bipush (v := nI 102) hx hb dX8_count_64 (by first | rfl | decide) ?_
    refine lv_iload_n hx hb dX8_count_66 rfl (lv_at hl 1 rfl) ?_
    refine lv_iadd hx hb dX8_count_67 ?_
    rw [nI_add (102) (0)]
    refine rm_sald hx hb hK hM hR (i := (102 + 0)) (by omega) dX8_count_68 ?_
    subst hQ
    exact m_zret hx hb hr (rfl) hlk hK hM hS dX8_count_69 (⟨by unfold mCount; rw [gxn_in (n := 11) (i := 0) (by decide) (by decide)]; rfl, hMM⟩)
  by_cases s_1_1 : (x) = 1
  · refine lv_tableIn (tgt := 60) (off := 59) hx hb dX8_count_1 (by rw [s_1_1]; decide) (by rw [s_1_1]; decide) (by rw [s_1_1]; rfl) (by decide) ?_
    obtain rfl : x = nI 1 := s_1_1
    refine lv_aload_n hx hb dX8_count_60 rfl (lv_at hl 0 rfl) ?_
    refine rm_getS hx hb ht ui_X8 hown hK hM hR (ht _ uw_594) dX8_count_61 ?_
    refine lv_bipush (v := nI 102) hx hb dX8_count_64 (by first | rfl | decide) ?_
    refine lv_iload_n hx hb dX8_count_66 rfl (lv_at hl 1 rfl) ?_
    refine lv_iadd hx hb dX8_count_67 ?_
    rw [nI_add (102) (1)]
    refine rm_sald hx hb hK hM hR (i := (102 + 1)) (by omega) dX8_count_68 ?_
    subst hQ
    exact m_zret hx hb hr (rfl) hlk hK hM hS dX8_count_69 (⟨by unfold mCount; rw [gxn_in (n := 11) (i := 1) (by decide) (by decide)]; rfl, hMM⟩)
  by_cases s_1_2 : (x) = 2
  · refine lv_tableIn (tgt := 60) (off := 59) hx hb dX8_count_1 (by rw [s_1_2]; decide) (by rw [s_1_2]; decide) (by rw [s_1_2]; rfl) (by decide) ?_
    obtain rfl : x = nI 2 := s_1_2
    refine lv_aload_n hx hb dX8_count_60 rfl (lv_at hl 0 rfl) ?_
    refine rm_getS hx hb ht ui_X8 hown hK hM hR (ht _ uw_594) dX8_count_61 ?_
    refine lv_bipush (v := nI 102) hx hb dX8_count_64 (by first | rfl | decide) ?_
    refine lv_iload_n hx hb dX8_count_66 rfl (lv_at hl 1 rfl) ?_
    refine lv_iadd hx hb dX8_count_67 ?_
    rw [nI_add (102) (2)]
    refine rm_sald hx hb hK hM hR (i := (102 + 2)) (by omega) dX8_count_68 ?_
    subst hQ
    exact m_zret hx hb hr (rfl) hlk hK hM hS dX8_count_69 (⟨by unfold mCount; rw [gxn_in (n := 11) (i := 2) (by decide) (by decide)]; rfl, hMM⟩)
  by_cases s_1_3 : (x) = 3
  · refine lv_tableIn (tgt := 60) (off := 59) hx hb dX8_count_1 (by rw [s_1_3]; decide) (by rw [s_1_3]; decide) (by rw [s_1_3]; rfl) (by decide) ?_
    obtain rfl : x = nI 3 := s_1_3
    refine lv_aload_n hx hb dX8_count_60 rfl (lv_at hl 0 rfl) ?_
    refine rm_getS hx hb ht ui_X8 hown hK hM hR (ht _ uw_594) dX8_count_61 ?_
    refine lv_bipush (v := nI 102) hx hb dX8_count_64 (by first | rfl | decide) ?_
    refine lv_iload_n hx hb dX8_count_66 rfl (lv_at hl 1 rfl) ?_
    refine lv_iadd hx hb dX8_count_67 ?_
    rw [nI_add (102) (3)]
    refine rm_sald hx hb hK hM hR (i := (102 + 3)) (by omega) dX8_count_68 ?_
    subst hQ
    exact m_zret hx hb hr (rfl) hlk hK hM hS dX8_count_69 (⟨by unfold mCount; rw [gxn_in (n := 11) (i := 3) (by decide) (by decide)]; rfl, hMM⟩)
  by_cases s_1_4 : (x) = 4
  · refine lv_tableIn (tgt := 70) (off := 69) hx hb dX8_count_1 (by rw [s_1_4]; decide) (by rw [s_1_4]; decide) (by rw [s_1_4]; rfl) (by decide) ?_
    obtain rfl : x = nI 4 := s_1_4
    refine lv_aload_n hx hb dX8_count_70 rfl (lv_at hl 0 rfl) ?_
    refine lv_bipush (v := nI 6) hx hb dX8_count_71 (by first | rfl | decide) ?_
    refine m_callRI (val := sumN (fun z => σ (17 * z + 6)) 6) (As := [.int (nI 6)]) (rest := []) ⟨hx, hb, hml, hown, ht⟩ (k_X8_all l g A M Y σ ar ns hR 6 (by decide)) (cwV 1 ht (gU uw_751 uw_753 uw_28 uw_42 uw_754) rfl rfl rfl (by decide +kernel) ⟨by decide, by decide⟩) hK hM hS (m_recv hK hM (hR.1 Y (by omega) (by omega)) hR.2.1 rfl) rfl hl.1 rfl (Nat.le_of_ble_eq_true rfl) dX8_count_73 ⟨by decide, by decide⟩ (fun H locs hM hS => ?_)
    subst hQ
    exact m_zret hx hb hr (rfl) hlk hK hM hS dX8_count_76 (⟨by unfold mCount; rw [gxn_in (n := 11) (i := 4) (by decide) (by decide)]; rfl, hMM⟩)
  by_cases s_1_5 : (x) = 5
  · refine lv_tableIn (tgt := 77) (off := 76) hx hb dX8_count_1 (by rw [s_1_5]; decide) (by rw [s_1_5]; decide) (by rw [s_1_5]; rfl) (by decide) ?_
    obtain rfl : x = nI 5 := s_1_5
    refine lv_aload_n hx hb dX8_count_77 rfl (lv_at hl 0 rfl) ?_
    refine lv_bipush (v := nI 7) hx hb dX8_count_78 (by first | rfl | decide) ?_
    refine m_callRI (val := sumN (fun z => σ (17 * z + 7)) 6) (As := [.int (nI 7)]) (rest := []) ⟨hx, hb, hml, hown, ht⟩ (k_X8_all l g A M Y σ ar ns hR 7 (by decide)) (cwV 1 ht (gU uw_751 uw_753 uw_28 uw_42 uw_754) rfl rfl rfl (by decide +kernel) ⟨by decide, by decide⟩) hK hM hS (m_recv hK hM (hR.1 Y (by omega) (by omega)) hR.2.1 rfl) rfl hl.1 rfl (Nat.le_of_ble_eq_true rfl) dX8_count_80 ⟨by decide, by decide⟩ (fun H locs hM hS => ?_)
    refine lv_aload_n hx hb dX8_count_83 rfl (lv_at hl 0 rfl) ?_
    refine lv_iconst (v := nI 4) hx hb dX8_count_84 (by first | rfl | decide) ?_
    refine m_callRI (val := sumN (fun z => σ (17 * z + 4)) 6) (As := [.int (nI 4)]) (rest := [.int (sumN (fun z => σ (17 * z + 7)) 6)]) ⟨hx, hb, hml, hown, ht⟩ (k_X8_all l g A M Y σ ar ns hR 4 (by decide)) (cwV 1 ht (gU uw_751 uw_753 uw_28 uw_42 uw_754) rfl rfl rfl (by decide +kernel) ⟨by decide, by decide⟩) hK hM hS (m_recv hK hM (hR.1 Y (by omega) (by omega)) hR.2.1 rfl) rfl hl.1 rfl (Nat.le_of_ble_eq_true rfl) dX8_count_85 ⟨by decide, by decide⟩ (fun H locs hM hS => ?_)
    refine lv_iadd hx hb dX8_count_88 ?_
    subst hQ
    exact m_zret hx hb hr (rfl) hlk hK hM hS dX8_count_89 (⟨by unfold mCount; rw [gxn_in (n := 11) (i := 5) (by decide) (by decide)]; rfl, hMM⟩)
  by_cases s_1_6 : (x) = 6
  · refine lv_tableIn (tgt := 90) (off := 89) hx hb dX8_count_1 (by rw [s_1_6]; decide) (by rw [s_1_6]; decide) (by rw [s_1_6]; rfl) (by decide) ?_
    obtain rfl : x = nI 6 := s_1_6
    refine lv_aload_n hx hb dX8_count_90 rfl (lv_at hl 0 rfl) ?_
    refine lv_iconst (v := nI 5) hx hb dX8_count_91 (by first | rfl | decide) ?_
    refine m_callRI (val := sumN (fun z => σ (17 * z + 5)) 6) (As := [.int (nI 5)]) (rest := []) ⟨hx, hb, hml, hown, ht⟩ (k_X8_all l g A M Y σ ar ns hR 5 (by decide)) (cwV 1 ht (gU uw_751 uw_753 uw_28 uw_42 uw_754) rfl rfl rfl (by decide +kernel) ⟨by decide, by decide⟩) hK hM hS (m_recv hK hM (hR.1 Y (by omega) (by omega)) hR.2.1 rfl) rfl hl.1 rfl (Nat.le_of_ble_eq_true rfl) dX8_count_92 ⟨by decide, by decide⟩ (fun H locs hM hS => ?_)
    subst hQ
    exact m_zret hx hb hr (rfl) hlk hK hM hS dX8_count_95 (⟨by unfold mCount; rw [gxn_in (n := 11) (i := 6) (by decide) (by decide)]; rfl, hMM⟩)
  by_cases s_1_7 : (x) = 7
  · refine lv_tableIn (tgt := 96) (off := 95) hx hb dX8_count_1 (by rw [s_1_7]; decide) (by rw [s_1_7]; decide) (by rw [s_1_7]; rfl) (by decide) ?_
    obtain rfl : x = nI 7 := s_1_7
    refine lv_aload_n hx hb dX8_count_96 rfl (lv_at hl 0 rfl) ?_
    refine lv_bipush (v := nI 8) hx hb dX8_count_97 (by first | rfl | decide) ?_
    refine m_callRI (val := sumN (fun z => σ (17 * z + 8)) 6) (As := [.int (nI 8)]) (rest := []) ⟨hx, hb, hml, hown, ht⟩ (k_X8_all l g A M Y σ ar ns hR 8 (by decide)) (cwV 1 ht (gU uw_751 uw_753 uw_28 uw_42 uw_754) rfl rfl rfl (by decide +kernel) ⟨by decide, by decide⟩) hK hM hS (m_recv hK hM (hR.1 Y (by omega) (by omega)) hR.2.1 rfl) rfl hl.1 rfl (Nat.le_of_ble_eq_true rfl) dX8_count_99 ⟨by decide, by decide⟩ (fun H locs hM hS => ?_)
    subst hQ
    exact m_zret hx hb hr (rfl) hlk hK hM hS dX8_count_102 (⟨by unfold mCount; rw [gxn_in (n := 11) (i := 7) (by decide) (by decide)]; rfl, hMM⟩)
  by_cases s_1_8 : (x) = 8
  · refine lv_tableIn (tgt := 103) (off := 102) hx hb dX8_count_1 (by rw [s_1_8]; decide) (by rw [s_1_8]; decide) (by rw [s_1_8]; rfl) (by decide) ?_
    obtain rfl : x = nI 8 := s_1_8
    refine lv_aload_n hx hb dX8_count_103 rfl (lv_at hl 0 rfl) ?_
    refine m_callRI (val := gpsM σ 6) (As := []) (rest := []) ⟨hx, hb, hml, hown, ht⟩ (k_X8_gaps l g A M Y σ ar ns hR) (cwV 0 ht (gU uw_755 uw_757 uw_29 uw_42 uw_758) rfl rfl rfl (by decide +kernel) ⟨by decide, by decide⟩) hK hM hS (m_recv hK hM (hR.1 Y (by omega) (by omega)) hR.2.1 rfl) rfl hl.1 rfl (Nat.le_of_ble_eq_true rfl) dX8_count_104 ⟨by decide, by decide⟩ (fun H locs hM hS => ?_)
    subst hQ
    exact m_zret hx hb hr (rfl) hlk hK hM hS dX8_count_107 (⟨by unfold mCount; rw [gxn_in (n := 11) (i := 8) (by decide) (by decide)]; rfl, hMM⟩)
  by_cases s_1_9 : (x) = 9
  · refine lv_tableIn (tgt := 108) (off := 107) hx hb dX8_count_1 (by rw [s_1_9]; decide) (by rw [s_1_9]; decide) (by rw [s_1_9]; rfl) (by decide) ?_
    obtain rfl : x = nI 9 := s_1_9
    refine lv_aload_n hx hb dX8_count_108 rfl (lv_at hl 0 rfl) ?_
    refine rm_getN1 hx hb ht ui_X8 hown hK hM hR (ht _ uw_601) dX8_count_109 ?_
    subst hQ
    exact m_zret hx hb hr (rfl) hlk hK hM hS dX8_count_112 (⟨by unfold mCount; rw [gxn_in (n := 11) (i := 9) (by decide) (by decide)]; rfl, hMM⟩)
  by_cases s_1_10 : (x) = 10
  · refine lv_tableIn (tgt := 113) (off := 112) hx hb dX8_count_1 (by rw [s_1_10]; decide) (by rw [s_1_10]; decide) (by rw [s_1_10]; rfl) (by decide) ?_
    obtain rfl : x = nI 10 := s_1_10
    refine lv_aload_n hx hb dX8_count_113 rfl (lv_at hl 0 rfl) ?_
    refine rm_getN0 hx hb ht ui_X8 hown hK hM hR (ht _ uw_597) dX8_count_114 ?_
    subst hQ
    exact m_zret hx hb hr (rfl) hlk hK hM hS dX8_count_117 (⟨by unfold mCount; rw [gxn_in (n := 11) (i := 10) (by decide) (by decide)]; rfl, hMM⟩)
  exfalso
  have n_0 := lv_neT (a := 0) s_1_0 (by decide)
  have n_1 := lv_neT (a := 1) s_1_1 (by decide)
  have n_2 := lv_neT (a := 2) s_1_2 (by decide)
  have n_3 := lv_neT (a := 3) s_1_3 (by decide)
  have n_4 := lv_neT (a := 4) s_1_4 (by decide)
  have n_5 := lv_neT (a := 5) s_1_5 (by decide)
  have n_6 := lv_neT (a := 6) s_1_6 (by decide)
  have n_7 := lv_neT (a := 7) s_1_7 (by decide)
  have n_8 := lv_neT (a := 8) s_1_8 (by decide)
  have n_9 := lv_neT (a := 9) s_1_9 (by decide)
  have n_10 := lv_neT (a := 10) s_1_10 (by decide)
  omega

set_option maxHeartbeats 4000000 in
set_option maxRecDepth 100000 in
/-- untilRound -/
theorem k_X8_untilRound (l : Launch) (g : GG) (A : Nat → Prop) (M0 : MM) (Y : Nat) (σ : Nat → Int32) (ar : Nat → Nat → Int32) (ns : Nat → Int32) (hR : RepM g A M0 Y σ ar ns) (n : Nat) (hn : σ 105 = nI n) (hn20 : n ≤ 20) (hT : TI σ n) (x y : Int32)  : Met l yX8_untilRound (Uw yX8_untilRound cX8_untilRound 7 (Option.some ClassFile.FieldType.int)) (rmD 2) (PreM [.ref (Y), .int (x), .int (y)] g A M0) (PosI (fun r M1 => r = (mUntil σ x y) ∧ M1 = M0) g A) 0 0 A := by
  refine mk_Met (own := RX8) rfl rfl (by decide) (Nat.le_of_ble_eq_true rfl) ?_
  intro p e s m below meth c ls aa Q haa hQ hx hb hr hlk hml hown hts hK hM hS hl hnm
  obtain ⟨M, hMM⟩ : ∃ M, M = M0 := ⟨_, rfl⟩
  rw [← hMM] at hM hR
  have ht : ∀ w ∈ lw_good, w.before _ s = true := fun w h => hts w (List.mem_cons_of_mem _ h)
  have hF : FrM Y M0 M := by rw [hMM]; exact FrM.rf
  have hl : lv_has ls 7 [(0, .ref (Y)), (1, .int (x)), (2, .int (y))] := hl
  rcases gxn_cases (n := 6) (by decide) x with ⟨e1, h1⟩ | ⟨i, hi, rfl, e1⟩
  · refine lv_iload_n hx hb dX8_untilRound_0 rfl (lv_at hl 1 rfl) ?_
    refine m_callRSI (val := winC (x) 0 5) (As := [.int (x)]) (rest := []) ⟨hx, hb, hml, hown, ht⟩ (k_X8_isGauge l g A M (x)) (cwS 1 ht (gUS uw_658 uw_659 uw_42 uw_660) rfl rfl rfl (by decide +kernel) ⟨by decide, by decide⟩) hK hM hS rfl hl.1 rfl (Nat.le_of_ble_eq_true rfl) dX8_untilRound_1 ⟨by decide, by decide⟩ (fun H locs hM hS => ?_)
    refine lv_if_ne (tgt := 10) hx hb dX8_untilRound_4 (by decide) (fun c_4 => absurd (gx_w0 e1) c_4) (fun c_4 => ?_)
    refine lv_ldc (v := (-1000001)) hx hb hown (ht _ uw_661) dX8_untilRound_7 ?_
    subst hQ
    exact m_zret hx hb hr (rfl) hlk hK hM hS dX8_untilRound_9 (⟨by unfold mUntil; rw [e1], hMM⟩)
  · refine lv_iload_n hx hb dX8_untilRound_0 rfl (lv_at hl 1 rfl) ?_
    refine m_callRSI (val := winC (nI i) 0 5) (As := [.int (nI i)]) (rest := []) ⟨hx, hb, hml, hown, ht⟩ (k_X8_isGauge l g A M (nI i)) (cwS 1 ht (gUS uw_658 uw_659 uw_42 uw_660) rfl rfl rfl (by decide +kernel) ⟨by decide, by decide⟩) hK hM hS rfl hl.1 rfl (Nat.le_of_ble_eq_true rfl) dX8_untilRound_1 ⟨by decide, by decide⟩ (fun H locs hM hS => ?_)
    refine lv_if_ne (tgt := 10) hx hb dX8_untilRound_4 (by decide) (fun c_4 => ?_) (fun c_4 => absurd c_4 (gx_w1 hi))
    refine lv_iload_n hx hb dX8_untilRound_10 rfl (lv_at hl 2 rfl) ?_
    refine lv_iconst (v := nI 0) hx hb dX8_untilRound_11 (by first | rfl | decide) ?_
    refine lv_bipush (v := nI 99) hx hb dX8_untilRound_12 (by first | rfl | decide) ?_
    refine m_callRSI (val := winC (y) (nI 0) (nI 99)) (As := [.int (y), .int (nI 0), .int (nI 99)]) (rest := []) ⟨hx, hb, hml, hown, ht⟩ (k_X8_in l g A M (y) (nI 0) (nI 99)) (cwS 3 ht (gUS uw_630 uw_631 uw_42 uw_632) rfl rfl rfl (by decide +kernel) ⟨by decide, by decide⟩) hK hM hS rfl hl.1 rfl (Nat.le_of_ble_eq_true rfl) dX8_untilRound_14 ⟨by decide, by decide⟩ (fun H locs hM hS => ?_)
    refine lv_if_ne (tgt := 23) hx hb dX8_untilRound_17 (by decide) (fun c_17 => ?_) (fun c_17 => ?_)
    · have hcu : ¬ σ (17 * i + 1) = 0 := by
        intro q
        have := (hT.2.2.1 i hi).1
        rw [q] at this
        exact absurd this (by decide)
      refine lv_iload_n hx hb dX8_untilRound_23 rfl (lv_at hl 2 rfl) ?_
      refine lv_aload_n hx hb dX8_untilRound_24 rfl (lv_at hl 0 rfl) ?_
      refine lv_iload_n hx hb dX8_untilRound_25 rfl (lv_at hl 1 rfl) ?_
      refine lv_iconst (v := nI 0) hx hb dX8_untilRound_26 (by first | rfl | decide) ?_
      refine m_callRI (val := σ (17 * i + 0)) (As := [.int (nI i), .int (nI 0)]) (rest := [.int (y)]) ⟨hx, hb, hml, hown, ht⟩ (k_X8_of l g A M Y σ ar ns hR i 0 (by omega)) (cwV 2 ht (gU uw_650 uw_652 uw_15 uw_42 uw_653) rfl rfl rfl (by decide +kernel) ⟨by decide, by decide⟩) hK hM hS (m_recv hK hM (hR.1 Y (by omega) (by omega)) hR.2.1 rfl) rfl hl.1 rfl (Nat.le_of_ble_eq_true rfl) dX8_untilRound_27 ⟨by decide, by decide⟩ (fun H locs hM hS => ?_)
      refine lv_imul hx hb dX8_untilRound_30 ?_
      refine lv_aload_n hx hb dX8_untilRound_31 rfl (lv_at hl 0 rfl) ?_
      refine lv_iload_n hx hb dX8_untilRound_32 rfl (lv_at hl 1 rfl) ?_
      refine lv_iconst (v := nI 2) hx hb dX8_untilRound_33 (by first | rfl | decide) ?_
      refine m_callRI (val := σ (17 * i + 2)) (As := [.int (nI i), .int (nI 2)]) (rest := [.int ((y) * (σ (17 * i + 0)))]) ⟨hx, hb, hml, hown, ht⟩ (k_X8_of l g A M Y σ ar ns hR i 2 (by omega)) (cwV 2 ht (gU uw_650 uw_652 uw_15 uw_42 uw_653) rfl rfl rfl (by decide +kernel) ⟨by decide, by decide⟩) hK hM hS (m_recv hK hM (hR.1 Y (by omega) (by omega)) hR.2.1 rfl) rfl hl.1 rfl (Nat.le_of_ble_eq_true rfl) dX8_untilRound_34 ⟨by decide, by decide⟩ (fun H locs hM hS => ?_)
      refine lv_imul hx hb dX8_untilRound_37 ?_
      refine lv_bipush (v := nI 100) hx hb dX8_untilRound_38 (by first | rfl | decide) ?_
      refine lv_idiv hx hb dX8_untilRound_40 (by decide) ?_
      refine lv_topi (fun cc9 e_cc9 => ?_)
      refine lv_istore_n (lv' := [(3, .int (cc9)), (0, .ref (Y)), (1, .int (nI i)), (2, .int (y))]) hx hb dX8_untilRound_41 rfl hl (by decide) rfl (fun ls hl => ?_)
      refine lv_aload_n hx hb dX8_untilRound_42 rfl (lv_at hl 1 rfl) ?_
      refine lv_iload_n hx hb dX8_untilRound_43 rfl (lv_at hl 2 rfl) ?_
      refine m_callRI (val := untM σ i) (As := [.int (nI i)]) (rest := []) ⟨hx, hb, hml, hown, ht⟩ (k_X8_untold l g A M Y σ ar ns hR i hi) (cwV 1 ht (gU uw_763 uw_765 uw_30 uw_42 uw_766) rfl rfl rfl (by decide +kernel) ⟨by decide, by decide⟩) hK hM hS (m_recv hK hM (hR.1 Y (by omega) (by omega)) hR.2.1 rfl) rfl hl.1 rfl (Nat.le_of_ble_eq_true rfl) dX8_untilRound_44 ⟨by decide, by decide⟩ (fun H locs hM hS => ?_)
      refine lv_istore (lv' := [(4, .int (untM σ i)), (3, .int (cc9)), (0, .ref (Y)), (1, .int (nI i)), (2, .int (y))]) hx hb dX8_untilRound_47 hl (by decide) rfl (fun ls hl => ?_)
      refine lv_aload_n hx hb dX8_untilRound_49 rfl (lv_at hl 2 rfl) ?_
      refine lv_iload_n hx hb dX8_untilRound_50 rfl (lv_at hl 3 rfl) ?_
      refine lv_iconst (v := nI 4) hx hb dX8_untilRound_51 (by first | rfl | decide) ?_
      refine m_callRI (val := σ (17 * i + 4)) (As := [.int (nI i), .int (nI 4)]) (rest := []) ⟨hx, hb, hml, hown, ht⟩ (k_X8_of l g A M Y σ ar ns hR i 4 (by omega)) (cwV 2 ht (gU uw_650 uw_652 uw_15 uw_42 uw_653) rfl rfl rfl (by decide +kernel) ⟨by decide, by decide⟩) hK hM hS (m_recv hK hM (hR.1 Y (by omega) (by omega)) hR.2.1 rfl) rfl hl.1 rfl (Nat.le_of_ble_eq_true rfl) dX8_untilRound_52 ⟨by decide, by decide⟩ (fun H locs hM hS => ?_)
      refine lv_istore (lv' := [(5, .int (σ (17 * i + 4))), (4, .int (untM σ i)), (3, .int (cc9)), (0, .ref (Y)), (1, .int (nI i)), (2, .int (y))]) hx hb dX8_untilRound_55 hl (by decide) rfl (fun ls hl => ?_)
      obtain ⟨w0, hw0⟩ : ∃ w0, w0 = unlM σ i cc9 500 0 (untM σ i) (σ (17 * i + 4)) := ⟨_, rfl⟩
      refine lv_iconst (v := nI 0) hx hb dX8_untilRound_57 (by first | rfl | decide) ?_
      refine lv_istore (lv' := [(6, .int (nI 0)), (5, .int (σ (17 * i + 4))), (4, .int (untM σ i)), (3, .int (cc9)), (0, .ref (Y)), (1, .int (nI i)), (2, .int (y))]) hx hb dX8_untilRound_58 hl (by decide) rfl (fun ls hl => ?_)
      have loop_60 : ∀ (z_60 : Nat) (h9 : Nat) (u9 : Int32) (i9 : Int32) (H : Heap) (locs : List Loc) (ls : Array Slot), 500 - h9 < z_60 → h9 ≤ 500 → unlM σ i cc9 (500 - h9) h9 u9 i9 = w0 → HD g A M H → va_S A s.heap H locs → lv_has ls 7 [(6, .int (nI h9)), (5, .int (i9)), (4, .int (u9)), (3, .int (cc9)), (0, .ref (Y)), (1, .int (nI i)), (2, .int (y))] → W p l e (rmD 2) s m aa below meth c H locs 0 0 Q (F0 m 60 ls []) := by
        intro z_60
        induction z_60 with
        | zero => intro h9 u9 i9 H locs ls hz hh9 hw; exact absurd hz (Nat.not_lt_zero _)
        | succ z_60 ih_60 =>
        intro h9 u9 i9 H locs ls hz hh9 hw hM  hS hl
        refine lv_iload hx hb dX8_untilRound_60 (lv_at hl 2 rfl) ?_
        refine lv_aload_n hx hb dX8_untilRound_62 rfl (lv_at hl 4 rfl) ?_
        refine rm_getS hx hb ht ui_X8 hown hK hM hR (ht _ uw_594) dX8_untilRound_63 ?_
        refine lv_bipush (v := nI 102) hx hb dX8_untilRound_66 (by first | rfl | decide) ?_
        refine rm_sald hx hb hK hM hR (i := 102) (by omega) dX8_untilRound_68 ?_
        refine lv_icmp_ge (tgt := 117) hx hb dX8_untilRound_69 (by decide) (fun c_69 => ?_) (fun c_69 => ?_)
        · refine lv_iload hx hb dX8_untilRound_117 (lv_at hl 2 rfl) ?_
          refine lv_aload_n hx hb dX8_untilRound_119 rfl (lv_at hl 4 rfl) ?_
          refine rm_getS hx hb ht ui_X8 hown hK hM hR (ht _ uw_594) dX8_untilRound_120 ?_
          refine lv_bipush (v := nI 102) hx hb dX8_untilRound_123 (by first | rfl | decide) ?_
          refine rm_sald hx hb hK hM hR (i := 102) (by omega) dX8_untilRound_125 ?_
          refine lv_icmp_ge (tgt := 134) hx hb dX8_untilRound_126 (by decide) (fun c_126 => ?_) (fun c_126 => absurd (c_69) c_126)
          refine lv_iload hx hb dX8_untilRound_134 (lv_at hl 0 rfl) ?_
          subst hQ
          exact m_zret hx hb hr (rfl) hlk hK hM hS dX8_untilRound_136 (⟨by rw [mUntil_y e1 c_17, show felM σ i y = cc9 from e_cc9.symm, ← hw0, ← hw]; exact (unl_a c_69).symm, hMM⟩)
        · refine lv_iload hx hb dX8_untilRound_72 (lv_at hl 0 rfl) ?_
          refine lv_sipush (v := nI 500) hx hb dX8_untilRound_74 (by first | rfl | decide) ?_
          refine lv_icmp_ge (tgt := 117) hx hb dX8_untilRound_77 (by decide) (fun c_77 => ?_) (fun c_77 => ?_)
          · have hh5 : h9 = 500 := Nat.le_antisymm hh9 (nI_le_of (b := 500) (by omega) (by omega) c_77)
            refine lv_iload hx hb dX8_untilRound_117 (lv_at hl 2 rfl) ?_
            refine lv_aload_n hx hb dX8_untilRound_119 rfl (lv_at hl 4 rfl) ?_
            refine rm_getS hx hb ht ui_X8 hown hK hM hR (ht _ uw_594) dX8_untilRound_120 ?_
            refine lv_bipush (v := nI 102) hx hb dX8_untilRound_123 (by first | rfl | decide) ?_
            refine rm_sald hx hb hK hM hR (i := 102) (by omega) dX8_untilRound_125 ?_
            refine lv_icmp_ge (tgt := 134) hx hb dX8_untilRound_126 (by decide) (fun c_126 => absurd c_126 (c_69)) (fun c_126 => ?_)
            refine lv_ldc (v := (-1000006)) hx hb hown (ht _ uw_767) dX8_untilRound_129 ?_
            refine lv_goto (tgt := 136) hx hb dX8_untilRound_131 (by decide) ?_
            subst hQ
            exact m_zret hx hb hr (rfl) hlk hK hM hS dX8_untilRound_136 (⟨by rw [mUntil_y e1 c_17, show felM σ i y = cc9 from e_cc9.symm, ← hw0, ← hw, hh5]; exact (unl_b (Int32.not_le.mp c_69)).symm, hMM⟩)
          · have hh5 : h9 < 500 := nI_lt_of (by omega) (by decide) c_77
            refine lv_iload hx hb dX8_untilRound_80 (lv_at hl 1 rfl) ?_
            refine lv_iload_n hx hb dX8_untilRound_82 rfl (lv_at hl 3 rfl) ?_
            refine lv_iadd hx hb dX8_untilRound_83 ?_
            refine lv_istore (lv' := [(5, .int ((i9) + (cc9))), (6, .int (nI h9)), (4, .int (u9)), (3, .int (cc9)), (0, .ref (Y)), (1, .int (nI i)), (2, .int (y))]) hx hb dX8_untilRound_84 hl (by decide) rfl (fun ls hl => ?_)
            refine lv_iload hx hb dX8_untilRound_86 (lv_at hl 2 rfl) ?_
            refine lv_iload hx hb dX8_untilRound_88 (lv_at hl 0 rfl) ?_
            refine lv_aload_n hx hb dX8_untilRound_90 rfl (lv_at hl 4 rfl) ?_
            refine lv_iload_n hx hb dX8_untilRound_91 rfl (lv_at hl 5 rfl) ?_
            refine lv_iconst (v := nI 1) hx hb dX8_untilRound_92 (by first | rfl | decide) ?_
            refine m_callRI (val := σ (17 * i + 1)) (As := [.int (nI i), .int (nI 1)]) (rest := [.int ((i9) + (cc9)), .int (u9)]) ⟨hx, hb, hml, hown, ht⟩ (k_X8_of l g A M Y σ ar ns hR i 1 (by omega)) (cwV 2 ht (gU uw_650 uw_652 uw_15 uw_42 uw_653) rfl rfl rfl (by decide +kernel) ⟨by decide, by decide⟩) hK hM hS (m_recv hK hM (hR.1 Y (by omega) (by omega)) hR.2.1 rfl) rfl hl.1 rfl (Nat.le_of_ble_eq_true rfl) dX8_untilRound_93 ⟨by decide, by decide⟩ (fun H locs hM hS => ?_)
            refine lv_idiv hx hb dX8_untilRound_96 (hcu) ?_
            refine lv_iadd hx hb dX8_untilRound_97 ?_
            refine lv_istore (lv' := [(4, .int ((u9) + (((i9) + (cc9)) / (σ (17 * i + 1))))), (5, .int ((i9) + (cc9))), (6, .int (nI h9)), (3, .int (cc9)), (0, .ref (Y)), (1, .int (nI i)), (2, .int (y))]) hx hb dX8_untilRound_98 hl (by decide) rfl (fun ls hl => ?_)
            refine lv_iload hx hb dX8_untilRound_100 (lv_at hl 1 rfl) ?_
            refine lv_aload_n hx hb dX8_untilRound_102 rfl (lv_at hl 4 rfl) ?_
            refine lv_iload_n hx hb dX8_untilRound_103 rfl (lv_at hl 5 rfl) ?_
            refine lv_iconst (v := nI 1) hx hb dX8_untilRound_104 (by first | rfl | decide) ?_
            refine m_callRI (val := σ (17 * i + 1)) (As := [.int (nI i), .int (nI 1)]) (rest := [.int ((i9) + (cc9))]) ⟨hx, hb, hml, hown, ht⟩ (k_X8_of l g A M Y σ ar ns hR i 1 (by omega)) (cwV 2 ht (gU uw_650 uw_652 uw_15 uw_42 uw_653) rfl rfl rfl (by decide +kernel) ⟨by decide, by decide⟩) hK hM hS (m_recv hK hM (hR.1 Y (by omega) (by omega)) hR.2.1 rfl) rfl hl.1 rfl (Nat.le_of_ble_eq_true rfl) dX8_untilRound_105 ⟨by decide, by decide⟩ (fun H locs hM hS => ?_)
            refine lv_irem hx hb dX8_untilRound_108 (hcu) ?_
            refine lv_istore (lv' := [(5, .int (((i9) + (cc9)) - ((i9) + (cc9)) / (σ (17 * i + 1)) * (σ (17 * i + 1)))), (4, .int ((u9) + (((i9) + (cc9)) / (σ (17 * i + 1))))), (6, .int (nI h9)), (3, .int (cc9)), (0, .ref (Y)), (1, .int (nI i)), (2, .int (y))]) hx hb dX8_untilRound_109 hl (by decide) rfl (fun ls hl => ?_)
            refine lv_iinc (v := nI (h9 + 1)) (lv' := [(6, .int (nI (h9 + 1))), (5, .int (((i9) + (cc9)) - ((i9) + (cc9)) / (σ (17 * i + 1)) * (σ (17 * i + 1)))), (4, .int ((u9) + (((i9) + (cc9)) / (σ (17 * i + 1))))), (3, .int (cc9)), (0, .ref (Y)), (1, .int (nI i)), (2, .int (y))]) hx hb dX8_untilRound_111 hl (k := 2) rfl (nI_1 _) (by decide) rfl (fun ls hl => ?_)
            refine lv_goto (tgt := 60) hx hb dX8_untilRound_114 (by decide) ?_
            exact ih_60 (h9 + 1) ((u9) + (((i9) + (cc9)) / (σ (17 * i + 1)))) (((i9) + (cc9)) - ((i9) + (cc9)) / (σ (17 * i + 1)) * (σ (17 * i + 1))) _ _ _ (by omega) (by omega) (by rw [← hw]; exact (unl_s (by omega) (Int32.not_le.mp c_69)).symm) hM hS (lv_sub hl [0, 1, 2, 3, 4, 5, 6] rfl)
      exact loop_60 _ 0 (untM σ i) (σ (17 * i + 4)) _ _ _ (Nat.lt_succ_self _) (by omega) hw0.symm hM hS (lv_sub hl [0, 1, 2, 3, 4, 5, 6] rfl)
    · refine lv_ldc (v := (-1000002)) hx hb hown (ht _ uw_633) dX8_untilRound_20 ?_
      subst hQ
      exact m_zret hx hb hr (rfl) hlk hK hM hS dX8_untilRound_22 (⟨by unfold mUntil; rw [e1]; dsimp only; rw [if_pos c_17], hMM⟩)

set_option maxHeartbeats 4000000 in
set_option maxRecDepth 100000 in
/-- ifSent -/
theorem k_X8_ifSent (l : Launch) (g : GG) (A : Nat → Prop) (M0 : MM) (Y : Nat) (σ : Nat → Int32) (ar : Nat → Nat → Int32) (ns : Nat → Int32) (hR : RepM g A M0 Y σ ar ns) (n : Nat) (hn : σ 105 = nI n) (hn20 : n ≤ 20) (hT : TI σ n) (c1 : 0 ≤ (σ (17 * 0 + 6)).toInt) (c2 : (σ (17 * 0 + 6)).toInt ≤ 33000000) (x : Int32)  : Met l yX8_ifSent (Uw yX8_ifSent cX8_ifSent 3 (Option.some ClassFile.FieldType.int)) (rmD 3) (PreM [.ref (Y), .int (x)] g A M0) (PosI (fun r M1 => r = (mIfSent (σ, ar, ns) x).1 ∧ RepMS g A M1 Y (mIfSent (σ, ar, ns) x).2 ∧ FrM Y M0 M1) g A) 0 0 A := by
  refine mk_Met (own := RX8) rfl rfl (by decide) (Nat.le_of_ble_eq_true rfl) ?_
  intro p e s m below meth c ls aa Q haa hQ hx hb hr hlk hml hown hts hK hM hS hl hnm
  obtain ⟨M, hMM⟩ : ∃ M, M = M0 := ⟨_, rfl⟩
  rw [← hMM] at hM hR
  have ht : ∀ w ∈ lw_good, w.before _ s = true := fun w h => hts w (List.mem_cons_of_mem _ h)
  have hF : FrM Y M0 M := by rw [hMM]; exact FrM.rf
  have hl : lv_has ls 3 [(0, .ref (Y)), (1, .int (x))] := hl
  have hW0 : ¬ σ 102 = 0 := by
    obtain ⟨w0, q1, q2, q3⟩ := hT.1
    rw [q3]
    exact nI_ne0 (by omega) (by omega)
  rcases gxn_cases (n := 6) (by decide) x with ⟨e1, h1⟩ | ⟨i, hi, rfl, e1⟩
  · refine lv_iload_n hx hb dX8_ifSent_0 rfl (lv_at hl 1 rfl) ?_
    refine m_callRSI (val := winC (x) 0 5) (As := [.int (x)]) (rest := []) ⟨hx, hb, hml, hown, ht⟩ (k_X8_isGauge l g A M (x)) (cwS 1 ht (gUS uw_658 uw_659 uw_42 uw_660) rfl rfl rfl (by decide +kernel) ⟨by decide, by decide⟩) hK hM hS rfl hl.1 rfl (Nat.le_of_ble_eq_true rfl) dX8_ifSent_1 ⟨by decide, by decide⟩ (fun H locs hM hS => ?_)
    refine lv_if_ne (tgt := 10) hx hb dX8_ifSent_4 (by decide) (fun c_4 => absurd (gx_w0 e1) c_4) (fun c_4 => ?_)
    refine lv_ldc (v := (-1000001)) hx hb hown (ht _ uw_661) dX8_ifSent_7 ?_
    subst hQ
    exact m_zret hx hb hr (rfl) hlk hK hM hS dX8_ifSent_9 (by rw [mIfSent_n e1]; exact ⟨rfl, hR, hF⟩)
  · refine lv_iload_n hx hb dX8_ifSent_0 rfl (lv_at hl 1 rfl) ?_
    refine m_callRSI (val := winC (nI i) 0 5) (As := [.int (nI i)]) (rest := []) ⟨hx, hb, hml, hown, ht⟩ (k_X8_isGauge l g A M (nI i)) (cwS 1 ht (gUS uw_658 uw_659 uw_42 uw_660) rfl rfl rfl (by decide +kernel) ⟨by decide, by decide⟩) hK hM hS rfl hl.1 rfl (Nat.le_of_ble_eq_true rfl) dX8_ifSent_1 ⟨by decide, by decide⟩ (fun H locs hM hS => ?_)
    refine lv_if_ne (tgt := 10) hx hb dX8_ifSent_4 (by decide) (fun c_4 => ?_) (fun c_4 => absurd c_4 (gx_w1 hi))
    refine lv_aload_n hx hb dX8_ifSent_10 rfl (lv_at hl 0 rfl) ?_
    refine m_callV (As := []) (rest := []) ⟨hx, hb, hml, hown, ht⟩ (k_X8_putAside l g A M Y σ ar ns hR) (cwV 0 ht (gU uw_772 uw_774 uw_31 uw_42 uw_775) rfl rfl rfl (by decide +kernel) ⟨by decide, by decide⟩) hK hM hS (m_recv hK hM (hR.1 Y (by omega) (by omega)) hR.2.1 rfl) rfl hl.1 rfl (Nat.le_of_ble_eq_true rfl) dX8_ifSent_11 ⟨by decide, by decide⟩ (fun M H locs hp hM hS => ?_)
    obtain ⟨hR, hF1⟩ := hp
    have hF := hF.tr hF1
    refine lv_aload_n hx hb dX8_ifSent_14 rfl (lv_at hl 0 rfl) ?_
    refine lv_iload_n hx hb dX8_ifSent_15 rfl (lv_at hl 1 rfl) ?_
    refine lv_aload_n hx hb dX8_ifSent_16 rfl (lv_at hl 0 rfl) ?_
    refine lv_iload_n hx hb dX8_ifSent_17 rfl (lv_at hl 1 rfl) ?_
    refine m_callRI (val := whM σ i) (As := [.int (nI i)]) (rest := [.int (nI i), .ref (Y)]) ⟨hx, hb, hml, hown, ht⟩ (k_X8_wheel l g A M Y σ (va_up ar 1 (cpN 226 (ar 1) σ)) ns hR i hi hW0) (cwV 1 ht (gU uw_698 uw_700 uw_22 uw_42 uw_701) rfl rfl rfl (by decide +kernel) ⟨by decide, by decide⟩) hK hM hS (m_recv hK hM (hR.1 Y (by omega) (by omega)) hR.2.1 rfl) rfl hl.1 rfl (Nat.le_of_ble_eq_true rfl) dX8_ifSent_18 ⟨by decide, by decide⟩ (fun H locs hM hS => ?_)
    refine lv_aload_n hx hb dX8_ifSent_21 rfl (lv_at hl 0 rfl) ?_
    refine rm_getS hx hb ht ui_X8 hown hK hM hR (ht _ uw_594) dX8_ifSent_22 ?_
    refine lv_bipush (v := nI 104) hx hb dX8_ifSent_25 (by first | rfl | decide) ?_
    refine rm_sald hx hb hK hM hR (i := 104) (by omega) dX8_ifSent_27 ?_
    refine lv_aload_n hx hb dX8_ifSent_28 rfl (lv_at hl 0 rfl) ?_
    refine lv_iload_n hx hb dX8_ifSent_29 rfl (lv_at hl 1 rfl) ?_
    refine lv_iconst (v := nI 5) hx hb dX8_ifSent_30 (by first | rfl | decide) ?_
    refine m_callRI (val := σ (17 * i + 5)) (As := [.int (nI i), .int (nI 5)]) (rest := [.int (σ 104), .int (whM σ i), .int (nI i), .ref (Y)]) ⟨hx, hb, hml, hown, ht⟩ (k_X8_of l g A M Y σ (va_up ar 1 (cpN 226 (ar 1) σ)) ns hR i 5 (by omega)) (cwV 2 ht (gU uw_650 uw_652 uw_15 uw_42 uw_653) rfl rfl rfl (by decide +kernel) ⟨by decide, by decide⟩) hK hM hS (m_recv hK hM (hR.1 Y (by omega) (by omega)) hR.2.1 rfl) rfl hl.1 rfl (Nat.le_of_ble_eq_true rfl) dX8_ifSent_31 ⟨by decide, by decide⟩ (fun H locs hM hS => ?_)
    refine lv_aload_n hx hb dX8_ifSent_34 rfl (lv_at hl 0 rfl) ?_
    refine lv_iconst (v := nI 0) hx hb dX8_ifSent_35 (by first | rfl | decide) ?_
    refine lv_bipush (v := nI 6) hx hb dX8_ifSent_36 (by first | rfl | decide) ?_
    refine m_callRI (val := σ (17 * 0 + 6)) (As := [.int (nI 0), .int (nI 6)]) (rest := [.int (σ (17 * i + 5)), .int (σ 104), .int (whM σ i), .int (nI i), .ref (Y)]) ⟨hx, hb, hml, hown, ht⟩ (k_X8_of l g A M Y σ (va_up ar 1 (cpN 226 (ar 1) σ)) ns hR 0 6 (by omega)) (cwV 2 ht (gU uw_650 uw_652 uw_15 uw_42 uw_653) rfl rfl rfl (by decide +kernel) ⟨by decide, by decide⟩) hK hM hS (m_recv hK hM (hR.1 Y (by omega) (by omega)) hR.2.1 rfl) rfl hl.1 rfl (Nat.le_of_ble_eq_true rfl) dX8_ifSent_38 ⟨by decide, by decide⟩ (fun H locs hM hS => ?_)
    have hbd : -60 ≤ (whM σ i).toInt ∧ (whM σ i).toInt ≤ 60 := by
      obtain ⟨w0, q1, q2, q3⟩ := hT.1
      exact irm_bd (by omega) q2 q3
    refine m_callV (As := [.int (nI i), .int (whM σ i), .int (σ 104), .int (σ (17 * i + 5)), .int (σ (17 * 0 + 6))]) (rest := []) ⟨hx, hb, hml, hown, ht⟩ (k_X8_tell l g A M Y σ (va_up ar 1 (cpN 226 (ar 1) σ)) ns hR i (whM σ i) (σ 104) (σ (17 * i + 5)) (σ (17 * 0 + 6)) hi (hT.TB hi hbd.1 hbd.2 c1 c2)) (cwV 5 ht (gU uw_683 uw_685 uw_20 uw_42 uw_686) rfl rfl rfl (by decide +kernel) ⟨by decide, by decide⟩) hK hM hS (m_recv hK hM (hR.1 Y (by omega) (by omega)) hR.2.1 rfl) rfl hl.1 rfl (Nat.le_of_ble_eq_true rfl) dX8_ifSent_41 ⟨by decide, by decide⟩ (fun M H locs hp hM hS => ?_)
    obtain ⟨hR, hF1⟩ := hp
    have hF := hF.tr hF1
    refine lv_aload_n hx hb dX8_ifSent_44 rfl (lv_at hl 0 rfl) ?_
    refine lv_iload_n hx hb dX8_ifSent_45 rfl (lv_at hl 1 rfl) ?_
    refine m_callRI (val := (telC σ i (whM σ i) (σ 104) (σ (17 * i + 5)) (σ (17 * 0 + 6))) (17 * i + 5) - (telC σ i (whM σ i) (σ 104) (σ (17 * i + 5)) (σ (17 * 0 + 6))) (17 * i + 8)) (As := [.int (nI i)]) (rest := []) ⟨hx, hb, hml, hown, ht⟩ (k_X8_gap l g A M Y (telC σ i (whM σ i) (σ 104) (σ (17 * i + 5)) (σ (17 * 0 + 6))) (va_up ar 1 (cpN 226 (ar 1) σ)) ns hR i hi) (cwV 1 ht (gU uw_739 uw_741 uw_27 uw_42 uw_742) rfl rfl rfl (by decide +kernel) ⟨by decide, by decide⟩) hK hM hS (m_recv hK hM (hR.1 Y (by omega) (by omega)) hR.2.1 rfl) rfl hl.1 rfl (Nat.le_of_ble_eq_true rfl) dX8_ifSent_46 ⟨by decide, by decide⟩ (fun H locs hM hS => ?_)
    refine lv_istore_n (lv' := [(2, .int ((telC σ i (whM σ i) (σ 104) (σ (17 * i + 5)) (σ (17 * 0 + 6))) (17 * i + 5) - (telC σ i (whM σ i) (σ 104) (σ (17 * i + 5)) (σ (17 * 0 + 6))) (17 * i + 8))), (0, .ref (Y)), (1, .int (nI i))]) hx hb dX8_ifSent_49 rfl hl (by decide) rfl (fun ls hl => ?_)
    refine lv_aload_n hx hb dX8_ifSent_50 rfl (lv_at hl 1 rfl) ?_
    refine m_callV (As := []) (rest := []) ⟨hx, hb, hml, hown, ht⟩ (k_X8_putBack l g A M Y (telC σ i (whM σ i) (σ 104) (σ (17 * i + 5)) (σ (17 * 0 + 6))) (va_up ar 1 (cpN 226 (ar 1) σ)) ns hR) (cwV 0 ht (gU uw_776 uw_778 uw_32 uw_42 uw_779) rfl rfl rfl (by decide +kernel) ⟨by decide, by decide⟩) hK hM hS (m_recv hK hM (hR.1 Y (by omega) (by omega)) hR.2.1 rfl) rfl hl.1 rfl (Nat.le_of_ble_eq_true rfl) dX8_ifSent_51 ⟨by decide, by decide⟩ (fun M H locs hp hM hS => ?_)
    obtain ⟨hR, hF1⟩ := hp
    have hF := hF.tr hF1
    have hR : RepM g A M Y σ (va_up ar 1 (cpN 226 (ar 1) σ)) ns := hR.eqv (cp_back (fun q hq => telC_o hi (by omega))).symm rfl rfl
    refine lv_iload_n hx hb dX8_ifSent_54 rfl (lv_at hl 0 rfl) ?_
    subst hQ
    exact m_zret hx hb hr (rfl) hlk hK hM hS dX8_ifSent_55 (by rw [mIfSent_y e1]; exact ⟨rfl, hR, hF⟩)

set_option maxHeartbeats 4000000 in
set_option maxRecDepth 100000 in
/-- ifAllCome -/
theorem k_X8_ifAllCome (l : Launch) (g : GG) (A : Nat → Prop) (M0 : MM) (Y : Nat) (σ : Nat → Int32) (ar : Nat → Nat → Int32) (ns : Nat → Int32) (hR : RepM g A M0 Y σ ar ns) (N : Nat) (hTN : TN σ) (hN : pasM 0 σ N 105 = nI 0) (hlt : ∀ q, q < N → ¬ pasM 0 σ q 105 = nI 0) (x : Int32)  : Met l yX8_ifAllCome (Uw yX8_ifAllCome cX8_ifAllCome 3 (Option.some ClassFile.FieldType.int)) (rmD 5) (PreM [.ref (Y), .int (x)] g A M0) (PosI (fun r M1 => r = (mIfAll N (σ, ar, ns) x).1 ∧ RepMS g A M1 Y (mIfAll N (σ, ar, ns) x).2 ∧ FrM Y M0 M1) g A) 0 0 A := by
  refine mk_Met (own := RX8) rfl rfl (by decide) (Nat.le_of_ble_eq_true rfl) ?_
  intro p e s m below meth c ls aa Q haa hQ hx hb hr hlk hml hown hts hK hM hS hl hnm
  obtain ⟨M, hMM⟩ : ∃ M, M = M0 := ⟨_, rfl⟩
  rw [← hMM] at hM hR
  have ht : ∀ w ∈ lw_good, w.before _ s = true := fun w h => hts w (List.mem_cons_of_mem _ h)
  have hF : FrM Y M0 M := by rw [hMM]; exact FrM.rf
  have hl : lv_has ls 3 [(0, .ref (Y)), (1, .int (x))] := hl
  rcases gxn_cases (n := 6) (by decide) x with ⟨e1, h1⟩ | ⟨i, hi, rfl, e1⟩
  · refine lv_iload_n hx hb dX8_ifAllCome_0 rfl (lv_at hl 1 rfl) ?_
    refine m_callRSI (val := winC (x) 0 5) (As := [.int (x)]) (rest := []) ⟨hx, hb, hml, hown, ht⟩ (k_X8_isGauge l g A M (x)) (cwS 1 ht (gUS uw_658 uw_659 uw_42 uw_660) rfl rfl rfl (by decide +kernel) ⟨by decide, by decide⟩) hK hM hS rfl hl.1 rfl (Nat.le_of_ble_eq_true rfl) dX8_ifAllCome_1 ⟨by decide, by decide⟩ (fun H locs hM hS => ?_)
    refine lv_if_ne (tgt := 10) hx hb dX8_ifAllCome_4 (by decide) (fun c_4 => absurd (gx_w0 e1) c_4) (fun c_4 => ?_)
    refine lv_ldc (v := (-1000001)) hx hb hown (ht _ uw_661) dX8_ifAllCome_7 ?_
    subst hQ
    exact m_zret hx hb hr (rfl) hlk hK hM hS dX8_ifAllCome_9 (by rw [mIfAll_n e1]; exact ⟨rfl, hR, hF⟩)
  · refine lv_iload_n hx hb dX8_ifAllCome_0 rfl (lv_at hl 1 rfl) ?_
    refine m_callRSI (val := winC (nI i) 0 5) (As := [.int (nI i)]) (rest := []) ⟨hx, hb, hml, hown, ht⟩ (k_X8_isGauge l g A M (nI i)) (cwS 1 ht (gUS uw_658 uw_659 uw_42 uw_660) rfl rfl rfl (by decide +kernel) ⟨by decide, by decide⟩) hK hM hS rfl hl.1 rfl (Nat.le_of_ble_eq_true rfl) dX8_ifAllCome_1 ⟨by decide, by decide⟩ (fun H locs hM hS => ?_)
    refine lv_if_ne (tgt := 10) hx hb dX8_ifAllCome_4 (by decide) (fun c_4 => ?_) (fun c_4 => absurd c_4 (gx_w1 hi))
    refine lv_aload_n hx hb dX8_ifAllCome_10 rfl (lv_at hl 0 rfl) ?_
    refine m_callV (As := []) (rest := []) ⟨hx, hb, hml, hown, ht⟩ (k_X8_putAside l g A M Y σ ar ns hR) (cwV 0 ht (gU uw_772 uw_774 uw_31 uw_42 uw_775) rfl rfl rfl (by decide +kernel) ⟨by decide, by decide⟩) hK hM hS (m_recv hK hM (hR.1 Y (by omega) (by omega)) hR.2.1 rfl) rfl hl.1 rfl (Nat.le_of_ble_eq_true rfl) dX8_ifAllCome_11 ⟨by decide, by decide⟩ (fun M H locs hp hM hS => ?_)
    obtain ⟨hR, hF1⟩ := hp
    have hF := hF.tr hF1
    have loop_14 : ∀ (z_14 : Nat) (q9 : Nat) (M : MM) (H : Heap) (locs : List Loc) (ls : Array Slot), N - q9 < z_14 → q9 ≤ N → HD g A M H → RepM g A M Y (pasM 0 σ q9) (va_up ar 1 (cpN 226 (ar 1) σ)) ns → FrM Y M0 M → va_S A s.heap H locs → lv_has ls 3 [(0, .ref (Y)), (1, .int (nI i))] → W p l e (rmD 5) s m aa below meth c H locs 0 0 Q (F0 m 14 ls []) := by
      intro z_14
      induction z_14 with
      | zero => intro q9 M H locs ls hz hq9; exact absurd hz (Nat.not_lt_zero _)
      | succ z_14 ih_14 =>
      intro q9 M H locs ls hz hq9 hM hR hF hS hl
      obtain ⟨n9, hn20, hn9, hT9⟩ := pasM_TN hTN 0 q9
      refine lv_aload_n hx hb dX8_ifAllCome_14 rfl (lv_at hl 0 rfl) ?_
      refine rm_getS hx hb ht ui_X8 hown hK hM hR (ht _ uw_594) dX8_ifAllCome_15 ?_
      refine lv_bipush (v := nI 105) hx hb dX8_ifAllCome_18 (by first | rfl | decide) ?_
      refine rm_sald hx hb hK hM hR (i := 105) (by omega) dX8_ifAllCome_20 ?_
      rw [hn9]
      refine lv_if_le (tgt := 33) hx hb dX8_ifAllCome_21 (by decide) (fun c_21 => ?_) (fun c_21 => ?_)
      · have hq6 : q9 = N := Nat.le_antisymm hq9 (Nat.not_lt.mp (fun z => hlt q9 z (by
          have z2 := nI_le_of (b := n9) (a := 0) (by omega) (by omega) c_21
          rw [hn9, show n9 = 0 by omega])))
        subst hq6
        refine lv_aload_n hx hb dX8_ifAllCome_33 rfl (lv_at hl 0 rfl) ?_
        refine lv_iload_n hx hb dX8_ifAllCome_34 rfl (lv_at hl 1 rfl) ?_
        refine m_callRI (val := (pasM 0 σ q9) (17 * i + 5) - (pasM 0 σ q9) (17 * i + 8)) (As := [.int (nI i)]) (rest := []) ⟨hx, hb, hml, hown, ht⟩ (k_X8_gap l g A M Y (pasM 0 σ q9) (va_up ar 1 (cpN 226 (ar 1) σ)) ns hR i hi) (cwV 1 ht (gU uw_739 uw_741 uw_27 uw_42 uw_742) rfl rfl rfl (by decide +kernel) ⟨by decide, by decide⟩) hK hM hS (m_recv hK hM (hR.1 Y (by omega) (by omega)) hR.2.1 rfl) rfl hl.1 rfl (Nat.le_of_ble_eq_true rfl) dX8_ifAllCome_35 ⟨by decide, by decide⟩ (fun H locs hM hS => ?_)
        refine lv_istore_n (lv' := [(2, .int ((pasM 0 σ q9) (17 * i + 5) - (pasM 0 σ q9) (17 * i + 8))), (0, .ref (Y)), (1, .int (nI i))]) hx hb dX8_ifAllCome_38 rfl hl (by decide) rfl (fun ls hl => ?_)
        refine lv_aload_n hx hb dX8_ifAllCome_39 rfl (lv_at hl 1 rfl) ?_
        refine m_callV (As := []) (rest := []) ⟨hx, hb, hml, hown, ht⟩ (k_X8_putBack l g A M Y (pasM 0 σ q9) (va_up ar 1 (cpN 226 (ar 1) σ)) ns hR) (cwV 0 ht (gU uw_776 uw_778 uw_32 uw_42 uw_779) rfl rfl rfl (by decide +kernel) ⟨by decide, by decide⟩) hK hM hS (m_recv hK hM (hR.1 Y (by omega) (by omega)) hR.2.1 rfl) rfl hl.1 rfl (Nat.le_of_ble_eq_true rfl) dX8_ifAllCome_40 ⟨by decide, by decide⟩ (fun M H locs hp hM hS => ?_)
        obtain ⟨hR, hF1⟩ := hp
        have hF := hF.tr hF1
        have hR : RepM g A M Y σ (va_up ar 1 (cpN 226 (ar 1) σ)) ns := hR.eqv (cp_back (fun q hq => pasM_hi hTN q9 hq)).symm rfl rfl
        refine lv_iload_n hx hb dX8_ifAllCome_43 rfl (lv_at hl 0 rfl) ?_
        subst hQ
        exact m_zret hx hb hr (rfl) hlk hK hM hS dX8_ifAllCome_44 (by rw [mIfAll_y e1]; exact ⟨rfl, hR, hF⟩)
      · have hq6 : q9 < N := Nat.lt_of_not_le (fun z => by
          have z2 : q9 = N := by omega
          rw [z2, hN] at hn9
          have z3 := (nI_eq (by omega) (by omega)).mp hn9
          rw [← z3] at c_21
          exact c_21 (by decide))
        refine lv_aload_n hx hb dX8_ifAllCome_24 rfl (lv_at hl 0 rfl) ?_
        refine lv_iconst (v := nI 0) hx hb dX8_ifAllCome_25 (by first | rfl | decide) ?_
        refine m_callI (As := [.int (nI 0)]) (rest := []) ⟨hx, hb, hml, hown, ht⟩ (k_X8_hour l g A M Y (pasM 0 σ q9) (va_up ar 1 (cpN 226 (ar 1) σ)) ns hR 0 n9 hn9 hn20 hT9) (cwV 1 ht (gU uw_675 uw_677 uw_18 uw_42 uw_678) rfl rfl rfl (by decide +kernel) ⟨by decide, by decide⟩) hK hM hS (m_recv hK hM (hR.1 Y (by omega) (by omega)) hR.2.1 rfl) rfl hl.1 rfl (Nat.le_of_ble_eq_true rfl) dX8_ifAllCome_26 ⟨by decide, by decide⟩ (fun r9 M H locs hp hM hS => ?_)
        obtain ⟨e9, hR, hF1⟩ := hp
        have hF := hF.tr hF1
        refine lv_istore_n (lv' := [(2, .int (r9)), (0, .ref (Y)), (1, .int (nI i))]) hx hb dX8_ifAllCome_29 rfl hl (by decide) rfl (fun ls hl => ?_)
        refine lv_goto (tgt := 14) hx hb dX8_ifAllCome_30 (by decide) ?_
        exact ih_14 (q9 + 1) _ _ _ _ (by omega) (by omega) hM (hR.eqv (hou_eq hn9 hn20) rfl rfl) hF hS (lv_sub hl [1, 2] rfl)
    exact loop_14 _ 0 _ _ _ _ (Nat.lt_succ_self _) (Nat.zero_le _) hM hR hF hS (lv_sub hl [0, 1] rfl)

set_option maxHeartbeats 4000000 in
set_option maxRecDepth 100000 in
/-- mostUntold -/
theorem k_X8_mostUntold (l : Launch) (g : GG) (A : Nat → Prop) (M0 : MM) (Y : Nat) (σ : Nat → Int32) (ar : Nat → Nat → Int32) (ns : Nat → Int32) (hR : RepM g A M0 Y σ ar ns)  : Met l yX8_mostUntold (Uw yX8_mostUntold cX8_mostUntold 3 (Option.some ClassFile.FieldType.int)) (rmD 2) (PreM [.ref (Y)] g A M0) (PosI (fun r M1 => r = (foV (mouM σ 6)) ∧ M1 = M0) g A) 0 0 A := by
  refine mk_Met (own := RX8) rfl rfl (by decide) (Nat.le_of_ble_eq_true rfl) ?_
  intro p e s m below meth c ls aa Q haa hQ hx hb hr hlk hml hown hts hK hM hS hl hnm
  obtain ⟨M, hMM⟩ : ∃ M, M = M0 := ⟨_, rfl⟩
  rw [← hMM] at hM hR
  have ht : ∀ w ∈ lw_good, w.before _ s = true := fun w h => hts w (List.mem_cons_of_mem _ h)
  have hF : FrM Y M0 M := by rw [hMM]; exact FrM.rf
  have hl : lv_has ls 3 [(0, .ref (Y))] := hl
  refine lv_ldc (v := (-1000006)) hx hb hown (ht _ uw_767) dX8_mostUntold_0 ?_
  refine lv_istore_n (lv' := [(1, .int ((-1000006))), (0, .ref (Y))]) hx hb dX8_mostUntold_2 rfl hl (by decide) rfl (fun ls hl => ?_)
  refine lv_iconst (v := nI 0) hx hb dX8_mostUntold_3 (by first | rfl | decide) ?_
  refine lv_istore_n (lv' := [(2, .int (nI 0)), (1, .int ((-1000006))), (0, .ref (Y))]) hx hb dX8_mostUntold_4 rfl hl (by decide) rfl (fun ls hl => ?_)
  have loop_5 : ∀ (z_5 : Nat) (q9 : Nat) (o9 : Option Nat) (H : Heap) (locs : List Loc) (ls : Array Slot), 6 - q9 < z_5 → q9 ≤ 6 → (∀ f, o9 = some f → f < 6) → o9 = mouM σ q9 → HD g A M H → va_S A s.heap H locs → lv_has ls 3 [(2, .int (nI q9)), (1, .int (foV o9)), (0, .ref (Y))] → W p l e (rmD 2) s m aa below meth c H locs 0 0 Q (F0 m 5 ls []) := by
    intro z_5
    induction z_5 with
    | zero => intro q9 o9 H locs ls hz hq9 ho hw; exact absurd hz (Nat.not_lt_zero _)
    | succ z_5 ih_5 =>
    intro q9 o9 H locs ls hz hq9 ho hw hM  hS hl
    refine lv_iload_n hx hb dX8_mostUntold_5 rfl (lv_at hl 0 rfl) ?_
    refine lv_bipush (v := nI 6) hx hb dX8_mostUntold_6 (by first | rfl | decide) ?_
    refine lv_icmp_ge (tgt := 46) hx hb dX8_mostUntold_8 (by decide) (fun c_8 => ?_) (fun c_8 => ?_)
    · have hq6 : q9 = 6 := Nat.le_antisymm hq9 (nI_le_of (by omega) (by decide) c_8)
      subst hq6
      refine lv_iload_n hx hb dX8_mostUntold_46 rfl (lv_at hl 1 rfl) ?_
      subst hQ
      exact m_zret hx hb hr (rfl) hlk hK hM hS dX8_mostUntold_47 (⟨by rw [hw], hMM⟩)
    · have hq6 : q9 < 6 := nI_lt_of (by omega) (by decide) c_8
      rcases o9 with _ | f
      · have hl : lv_has ls 3 [(2, .int (nI q9)), (1, .int (-1000006)), (0, .ref Y)] := hl
        have hq6 : q9 < 6 := nI_lt_of (by omega) (by decide) c_8
        refine lv_aload_n hx hb dX8_mostUntold_11 rfl (lv_at hl 2 rfl) ?_
        refine lv_iload_n hx hb dX8_mostUntold_12 rfl (lv_at hl 0 rfl) ?_
        refine m_callRI (val := untM σ q9) (As := [.int (nI q9)]) (rest := []) ⟨hx, hb, hml, hown, ht⟩ (k_X8_untold l g A M Y σ ar ns hR q9 hq6) (cwV 1 ht (gU uw_763 uw_765 uw_30 uw_42 uw_766) rfl rfl rfl (by decide +kernel) ⟨by decide, by decide⟩) hK hM hS (m_recv hK hM (hR.1 Y (by omega) (by omega)) hR.2.1 rfl) rfl hl.1 rfl (Nat.le_of_ble_eq_true rfl) dX8_mostUntold_13 ⟨by decide, by decide⟩ (fun H locs hM hS => ?_)
        refine lv_iload_n hx hb dX8_mostUntold_16 rfl (lv_at hl 1 rfl) ?_
        refine lv_ldc (v := (-1000006)) hx hb hown (ht _ uw_767) dX8_mostUntold_17 ?_
        refine lv_icmp_ne (tgt := 26) hx hb dX8_mostUntold_19 (by decide) (fun c_19 => absurd (rfl) c_19) (fun c_19 => ?_)
        refine lv_iconst (v := nI 0) hx hb dX8_mostUntold_22 (by first | rfl | decide) ?_
        refine lv_goto (tgt := 31) hx hb dX8_mostUntold_23 (by decide) ?_
        refine lv_icmp_le (tgt := 38) hx hb dX8_mostUntold_31 (by decide) (fun c_31 => ?_) (fun c_31 => ?_)
        · refine lv_iload_n hx hb dX8_mostUntold_38 rfl (lv_at hl 1 rfl) ?_
          refine lv_istore_n (lv' := [(1, .int ((-1000006))), (2, .int (nI q9)), (0, .ref (Y))]) hx hb dX8_mostUntold_39 rfl hl (by decide) rfl (fun ls hl => ?_)
          refine lv_iinc (v := nI (q9 + 1)) (lv' := [(2, .int (nI (q9 + 1))), (1, .int ((-1000006))), (0, .ref (Y))]) hx hb dX8_mostUntold_40 hl (k := 1) rfl (nI_1 _) (by decide) rfl (fun ls hl => ?_)
          refine lv_goto (tgt := 5) hx hb dX8_mostUntold_43 (by decide) ?_
          exact ih_5 (q9 + 1) none _ _ _ (by omega) (by omega) ho (mou_2 hw.symm (Int32.not_lt.mpr c_31)) hM hS (lv_sub hl [0, 1, 2] rfl)
        · refine lv_iload_n hx hb dX8_mostUntold_34 rfl (lv_at hl 0 rfl) ?_
          refine lv_goto (tgt := 39) hx hb dX8_mostUntold_35 (by decide) ?_
          refine lv_istore_n (lv' := [(1, .int (nI q9)), (2, .int (nI q9)), (0, .ref (Y))]) hx hb dX8_mostUntold_39 rfl hl (by decide) rfl (fun ls hl => ?_)
          refine lv_iinc (v := nI (q9 + 1)) (lv' := [(2, .int (nI (q9 + 1))), (1, .int (nI q9)), (0, .ref (Y))]) hx hb dX8_mostUntold_40 hl (k := 1) rfl (nI_1 _) (by decide) rfl (fun ls hl => ?_)
          refine lv_goto (tgt := 5) hx hb dX8_mostUntold_43 (by decide) ?_
          exact ih_5 (q9 + 1) (some q9) _ _ _ (by omega) (by omega) (fun f z => by cases z; omega) (mou_1 hw.symm (Int32.not_le.mp c_31)) hM hS (lv_sub hl [0, 1, 2] rfl)
      · have hl : lv_has ls 3 [(2, .int (nI q9)), (1, .int (nI f)), (0, .ref Y)] := hl
        have hf : f < 6 := ho f rfl
        have hq6 : q9 < 6 := nI_lt_of (by omega) (by decide) c_8
        refine lv_aload_n hx hb dX8_mostUntold_11 rfl (lv_at hl 2 rfl) ?_
        refine lv_iload_n hx hb dX8_mostUntold_12 rfl (lv_at hl 0 rfl) ?_
        refine m_callRI (val := untM σ q9) (As := [.int (nI q9)]) (rest := []) ⟨hx, hb, hml, hown, ht⟩ (k_X8_untold l g A M Y σ ar ns hR q9 hq6) (cwV 1 ht (gU uw_763 uw_765 uw_30 uw_42 uw_766) rfl rfl rfl (by decide +kernel) ⟨by decide, by decide⟩) hK hM hS (m_recv hK hM (hR.1 Y (by omega) (by omega)) hR.2.1 rfl) rfl hl.1 rfl (Nat.le_of_ble_eq_true rfl) dX8_mostUntold_13 ⟨by decide, by decide⟩ (fun H locs hM hS => ?_)
        refine lv_iload_n hx hb dX8_mostUntold_16 rfl (lv_at hl 1 rfl) ?_
        refine lv_ldc (v := (-1000006)) hx hb hown (ht _ uw_767) dX8_mostUntold_17 ?_
        refine lv_icmp_ne (tgt := 26) hx hb dX8_mostUntold_19 (by decide) (fun c_19 => ?_) (fun c_19 => absurd c_19 (foV_ne hf))
        refine lv_aload_n hx hb dX8_mostUntold_26 rfl (lv_at hl 2 rfl) ?_
        refine lv_iload_n hx hb dX8_mostUntold_27 rfl (lv_at hl 1 rfl) ?_
        refine m_callRI (val := untM σ f) (As := [.int (nI f)]) (rest := [.int (untM σ q9)]) ⟨hx, hb, hml, hown, ht⟩ (k_X8_untold l g A M Y σ ar ns hR f hf) (cwV 1 ht (gU uw_763 uw_765 uw_30 uw_42 uw_766) rfl rfl rfl (by decide +kernel) ⟨by decide, by decide⟩) hK hM hS (m_recv hK hM (hR.1 Y (by omega) (by omega)) hR.2.1 rfl) rfl hl.1 rfl (Nat.le_of_ble_eq_true rfl) dX8_mostUntold_28 ⟨by decide, by decide⟩ (fun H locs hM hS => ?_)
        refine lv_icmp_le (tgt := 38) hx hb dX8_mostUntold_31 (by decide) (fun c_31 => ?_) (fun c_31 => ?_)
        · refine lv_iload_n hx hb dX8_mostUntold_38 rfl (lv_at hl 1 rfl) ?_
          refine lv_istore_n (lv' := [(1, .int (nI f)), (2, .int (nI q9)), (0, .ref (Y))]) hx hb dX8_mostUntold_39 rfl hl (by decide) rfl (fun ls hl => ?_)
          refine lv_iinc (v := nI (q9 + 1)) (lv' := [(2, .int (nI (q9 + 1))), (1, .int (nI f)), (0, .ref (Y))]) hx hb dX8_mostUntold_40 hl (k := 1) rfl (nI_1 _) (by decide) rfl (fun ls hl => ?_)
          refine lv_goto (tgt := 5) hx hb dX8_mostUntold_43 (by decide) ?_
          exact ih_5 (q9 + 1) (some f) _ _ _ (by omega) (by omega) ho (mou_2 hw.symm (Int32.not_lt.mpr c_31)) hM hS (lv_sub hl [0, 1, 2] rfl)
        · refine lv_iload_n hx hb dX8_mostUntold_34 rfl (lv_at hl 0 rfl) ?_
          refine lv_goto (tgt := 39) hx hb dX8_mostUntold_35 (by decide) ?_
          refine lv_istore_n (lv' := [(1, .int (nI q9)), (2, .int (nI q9)), (0, .ref (Y))]) hx hb dX8_mostUntold_39 rfl hl (by decide) rfl (fun ls hl => ?_)
          refine lv_iinc (v := nI (q9 + 1)) (lv' := [(2, .int (nI (q9 + 1))), (1, .int (nI q9)), (0, .ref (Y))]) hx hb dX8_mostUntold_40 hl (k := 1) rfl (nI_1 _) (by decide) rfl (fun ls hl => ?_)
          refine lv_goto (tgt := 5) hx hb dX8_mostUntold_43 (by decide) ?_
          exact ih_5 (q9 + 1) (some q9) _ _ _ (by omega) (by omega) (fun f z => by cases z; omega) (mou_1 hw.symm (Int32.not_le.mp c_31)) hM hS (lv_sub hl [0, 1, 2] rfl)
  exact loop_5 _ 0 none _ _ _ (Nat.lt_succ_self _) (by omega) (fun f z => by cases z) rfl hM hS (lv_sub hl [0, 1, 2] rfl)

set_option maxHeartbeats 4000000 in
set_option maxRecDepth 100000 in
/-- wipe -/
theorem k_X8_wipe (l : Launch) (g : GG) (A : Nat → Prop) (M0 : MM) (Y : Nat) (σ : Nat → Int32) (ar : Nat → Nat → Int32) (ns : Nat → Int32) (hR : RepM g A M0 Y σ ar ns)  : Met l yX8_wipe (Uw yX8_wipe cX8_wipe 2 (Option.some ClassFile.FieldType.int)) (rmD 0) (PreM [.ref (Y)] g A M0) (PosI (fun r M1 => r = (mWipe (σ, ar, ns)).1 ∧ RepMS g A M1 Y (mWipe (σ, ar, ns)).2 ∧ FrM Y M0 M1) g A) 0 0 A := by
  refine mk_Met (own := RX8) rfl rfl (by decide) (Nat.le_of_ble_eq_true rfl) ?_
  intro p e s m below meth c ls aa Q haa hQ hx hb hr hlk hml hown hts hK hM hS hl hnm
  obtain ⟨M, hMM⟩ : ∃ M, M = M0 := ⟨_, rfl⟩
  rw [← hMM] at hM hR
  have ht : ∀ w ∈ lw_good, w.before _ s = true := fun w h => hts w (List.mem_cons_of_mem _ h)
  have hF : FrM Y M0 M := by rw [hMM]; exact FrM.rf
  have hl : lv_has ls 2 [(0, .ref (Y))] := hl
  refine lv_aload_n hx hb dX8_wipe_0 rfl (lv_at hl 0 rfl) ?_
  refine rm_getN1 hx hb ht ui_X8 hown hK hM hR (ht _ uw_601) dX8_wipe_1 ?_
  refine lv_istore_n (lv' := [(1, .int (ns 1)), (0, .ref (Y))]) hx hb dX8_wipe_4 rfl hl (by decide) rfl (fun ls hl => ?_)
  refine lv_aload_n hx hb dX8_wipe_5 rfl (lv_at hl 1 rfl) ?_
  refine lv_iconst (v := nI 0) hx hb dX8_wipe_6 (by first | rfl | decide) ?_
  refine rm_putN1 hx hb ht ui_X8 hown hK hM hS hR hF (ht _ uw_601) dX8_wipe_7 (fun M H locs hM hR hF hS => ?_)
  refine lv_iload_n hx hb dX8_wipe_10 rfl (lv_at hl 0 rfl) ?_
  subst hQ
  exact m_zret hx hb hr (rfl) hlk hK hM hS dX8_wipe_11 (⟨rfl, hR, hF⟩)

set_option maxHeartbeats 4000000 in
set_option maxRecDepth 100000 in
/-- undo -/
theorem k_X8_undo (l : Launch) (g : GG) (A : Nat → Prop) (M0 : MM) (Y : Nat) (σ : Nat → Int32) (ar : Nat → Nat → Int32) (ns : Nat → Int32) (hR : RepM g A M0 Y σ ar ns) (k : Nat) (hk : k ≤ 6) (hkn : ns 0 = nI k)  : Met l yX8_undo (Uw yX8_undo cX8_undo 2 (Option.some ClassFile.FieldType.int)) (rmD 0) (PreM [.ref (Y)] g A M0) (PosI (fun r M1 => r = (mUndo k (σ, ar, ns)).1 ∧ RepMS g A M1 Y (mUndo k (σ, ar, ns)).2 ∧ FrM Y M0 M1) g A) 0 0 A := by
  refine mk_Met (own := RX8) rfl rfl (by decide) (Nat.le_of_ble_eq_true rfl) ?_
  intro p e s m below meth c ls aa Q haa hQ hx hb hr hlk hml hown hts hK hM hS hl hnm
  obtain ⟨M, hMM⟩ : ∃ M, M = M0 := ⟨_, rfl⟩
  rw [← hMM] at hM hR
  have ht : ∀ w ∈ lw_good, w.before _ s = true := fun w h => hts w (List.mem_cons_of_mem _ h)
  have hF : FrM Y M0 M := by rw [hMM]; exact FrM.rf
  have hl : lv_has ls 2 [(0, .ref (Y))] := hl
  rcases k with _ | k
  · refine lv_aload_n hx hb dX8_undo_0 rfl (lv_at hl 0 rfl) ?_
    refine rm_getN0 hx hb ht ui_X8 hown hK hM hR (ht _ uw_597) dX8_undo_1 ?_
    rw [hkn]
    refine lv_if_ne (tgt := 10) hx hb dX8_undo_4 (by decide) (fun c_4 => absurd (rfl) c_4) (fun c_4 => ?_)
    refine lv_ldc (v := (-1000005)) hx hb hown (ht _ uw_808) dX8_undo_7 ?_
    subst hQ
    exact m_zret hx hb hr (rfl) hlk hK hM hS dX8_undo_9 (⟨rfl, hR, hF⟩)
  · refine lv_aload_n hx hb dX8_undo_0 rfl (lv_at hl 0 rfl) ?_
    refine rm_getN0 hx hb ht ui_X8 hown hK hM hR (ht _ uw_597) dX8_undo_1 ?_
    rw [hkn]
    refine lv_if_ne (tgt := 10) hx hb dX8_undo_4 (by decide) (fun c_4 => ?_) (fun c_4 => absurd c_4 (nI_ne0 (by omega) (by omega)))
    refine lv_aload_n hx hb dX8_undo_10 rfl (lv_at hl 0 rfl) ?_
    refine lv_dup hx hb dX8_undo_11 rfl ?_
    refine rm_getN0 hx hb ht ui_X8 hown hK hM hR (ht _ uw_597) dX8_undo_12 ?_
    rw [hkn]
    refine lv_iconst (v := nI 1) hx hb dX8_undo_15 (by first | rfl | decide) ?_
    refine lv_isub hx hb dX8_undo_16 ?_
    rw [pk_sub (a := (k + 1)) (b := 1) (by omega)]
    refine rm_putN0 hx hb ht ui_X8 hown hK hM hS hR hF (ht _ uw_597) dX8_undo_17 (fun M H locs hM hR hF hS => ?_)
    refine lv_iconst (v := nI 0) hx hb dX8_undo_20 (by first | rfl | decide) ?_
    refine lv_istore_n (lv' := [(1, .int (nI 0)), (0, .ref (Y))]) hx hb dX8_undo_21 rfl hl (by decide) rfl (fun ls hl => ?_)
    have loop_22 : ∀ (z_22 : Nat) (q9 : Nat) (M : MM) (H : Heap) (locs : List Loc) (ls : Array Slot), 226 - q9 < z_22 → q9 ≤ 226 → HD g A M H → RepM g A M Y (cpN q9 σ (fun z => ar 2 (226 * (k + 1 - 1) + z))) ar (va_up ns 0 (nI (k + 1 - 1))) → FrM Y M0 M → va_S A s.heap H locs → lv_has ls 2 [(1, .int (nI q9)), (0, .ref (Y))] → W p l e (rmD 0) s m aa below meth c H locs 0 0 Q (F0 m 22 ls []) := by
      intro z_22
      induction z_22 with
      | zero => intro q9 M H locs ls hz hq9; exact absurd hz (Nat.not_lt_zero _)
      | succ z_22 ih_22 =>
      intro q9 M H locs ls hz hq9 hM hR hF hS hl
      refine lv_iload_n hx hb dX8_undo_22 rfl (lv_at hl 0 rfl) ?_
      refine lv_sipush (v := nI 226) hx hb dX8_undo_23 (by first | rfl | decide) ?_
      refine lv_icmp_ge (tgt := 56) hx hb dX8_undo_26 (by decide) (fun c_26 => ?_) (fun c_26 => ?_)
      · have hq6 : q9 = 226 := Nat.le_antisymm hq9 (nI_le_of (by omega) (by decide) c_26)
        subst hq6
        refine lv_aload_n hx hb dX8_undo_56 rfl (lv_at hl 1 rfl) ?_
        refine rm_getN0 hx hb ht ui_X8 hown hK hM hR (ht _ uw_597) dX8_undo_57 ?_
        rw [show (va_up ns 0 (nI (k + 1 - 1))) 0 = nI (k + 1 - 1) from rfl]
        subst hQ
        exact m_zret hx hb hr (rfl) hlk hK hM hS dX8_undo_60 (⟨rfl, hR, hF⟩)
      · have hq6 : q9 < 226 := nI_lt_of (by omega) (by decide) c_26
        refine lv_aload_n hx hb dX8_undo_29 rfl (lv_at hl 1 rfl) ?_
        refine rm_getS hx hb ht ui_X8 hown hK hM hR (ht _ uw_594) dX8_undo_30 ?_
        refine lv_iload_n hx hb dX8_undo_33 rfl (lv_at hl 0 rfl) ?_
        refine lv_aload_n hx hb dX8_undo_34 rfl (lv_at hl 1 rfl) ?_
        refine rm_getA2 hx hb ht ui_X8 hown hK hM hR (ht _ uw_596) dX8_undo_35 ?_
        refine lv_sipush (v := nI 226) hx hb dX8_undo_38 (by first | rfl | decide) ?_
        refine lv_aload_n hx hb dX8_undo_41 rfl (lv_at hl 1 rfl) ?_
        refine rm_getN0 hx hb ht ui_X8 hown hK hM hR (ht _ uw_597) dX8_undo_42 ?_
        rw [show (va_up ns 0 (nI (k + 1 - 1))) 0 = nI (k + 1 - 1) from rfl]
        refine lv_imul hx hb dX8_undo_45 ?_
        rw [pk_mul (226) ((k + 1 - 1))]
        refine lv_iload_n hx hb dX8_undo_46 rfl (lv_at hl 0 rfl) ?_
        refine lv_iadd hx hb dX8_undo_47 ?_
        rw [nI_add ((226 * (k + 1 - 1))) (q9)]
        refine rm_aald hx hb hK hM hR 2 (by decide) (by decide) (by decide) (i := ((226 * (k + 1 - 1)) + q9)) (show 226 * (k + 1 - 1) + q9 < 1356 by omega) dX8_undo_48 ?_
        refine rm_sast hx hb hK hM hS hR hF (i := q9) (by omega) dX8_undo_49 (fun M H locs hM hR hF hS => ?_)
        refine lv_iinc (v := nI (q9 + 1)) (lv' := [(1, .int (nI (q9 + 1))), (0, .ref (Y))]) hx hb dX8_undo_50 hl (k := 0) rfl (nI_1 _) (by decide) rfl (fun ls hl => ?_)
        refine lv_goto (tgt := 22) hx hb dX8_undo_53 (by decide) ?_
        exact ih_22 (q9 + 1) _ _ _ _ (by omega) (by omega) hM (hR.eqv (cpN_up _ _ _) rfl rfl) hF hS (lv_sub hl [0, 1] rfl)
    exact loop_22 _ 0 _ _ _ _ (Nat.lt_succ_self _) (by omega) hM (hR.eqv (cpN_0 _ _) rfl rfl) hF hS (lv_sub hl [0, 1] rfl)

set_option maxHeartbeats 4000000 in
set_option maxRecDepth 100000 in
/-- save -/
theorem k_X8_save (l : Launch) (g : GG) (A : Nat → Prop) (M0 : MM) (Y : Nat) (σ : Nat → Int32) (ar : Nat → Nat → Int32) (ns : Nat → Int32) (hR : RepM g A M0 Y σ ar ns) (x : Int32)  : Met l yX8_save (Uw yX8_save cX8_save 3 (Option.some ClassFile.FieldType.int)) (rmD 1) (PreM [.ref (Y), .int (x)] g A M0) (PosI (fun r M1 => r = (mSave (σ, ar, ns) x).1 ∧ RepMS g A M1 Y (mSave (σ, ar, ns) x).2 ∧ FrM Y M0 M1) g A) 0 0 A := by
  refine mk_Met (own := RX8) rfl rfl (by decide) (Nat.le_of_ble_eq_true rfl) ?_
  intro p e s m below meth c ls aa Q haa hQ hx hb hr hlk hml hown hts hK hM hS hl hnm
  obtain ⟨M, hMM⟩ : ∃ M, M = M0 := ⟨_, rfl⟩
  rw [← hMM] at hM hR
  have ht : ∀ w ∈ lw_good, w.before _ s = true := fun w h => hts w (List.mem_cons_of_mem _ h)
  have hF : FrM Y M0 M := by rw [hMM]; exact FrM.rf
  have hl : lv_has ls 3 [(0, .ref (Y)), (1, .int (x))] := hl
  rcases gxn_cases (n := 2) (by decide) x with ⟨e1, h1⟩ | ⟨i, hi, rfl, e1⟩
  · refine lv_iload_n hx hb dX8_save_0 rfl (lv_at hl 1 rfl) ?_
    refine lv_iconst (v := nI 0) hx hb dX8_save_1 (by first | rfl | decide) ?_
    refine lv_iconst (v := nI 1) hx hb dX8_save_2 (by first | rfl | decide) ?_
    refine m_callRSI (val := winC (x) (nI 0) (nI 1)) (As := [.int (x), .int (nI 0), .int (nI 1)]) (rest := []) ⟨hx, hb, hml, hown, ht⟩ (k_X8_in l g A M (x) (nI 0) (nI 1)) (cwS 3 ht (gUS uw_630 uw_631 uw_42 uw_632) rfl rfl rfl (by decide +kernel) ⟨by decide, by decide⟩) hK hM hS rfl hl.1 rfl (Nat.le_of_ble_eq_true rfl) dX8_save_3 ⟨by decide, by decide⟩ (fun H locs hM hS => ?_)
    refine lv_if_ne (tgt := 12) hx hb dX8_save_6 (by decide) (fun c_6 => absurd (gx_out (n := 1) (by decide) e1) c_6) (fun c_6 => ?_)
    refine lv_ldc (v := (-1000002)) hx hb hown (ht _ uw_633) dX8_save_9 ?_
    subst hQ
    exact m_zret hx hb hr (rfl) hlk hK hM hS dX8_save_11 (by rw [mSave_n e1]; exact ⟨rfl, hR, hF⟩)
  · refine lv_iload_n hx hb dX8_save_0 rfl (lv_at hl 1 rfl) ?_
    refine lv_iconst (v := nI 0) hx hb dX8_save_1 (by first | rfl | decide) ?_
    refine lv_iconst (v := nI 1) hx hb dX8_save_2 (by first | rfl | decide) ?_
    refine m_callRSI (val := winC (nI i) (nI 0) (nI 1)) (As := [.int (nI i), .int (nI 0), .int (nI 1)]) (rest := []) ⟨hx, hb, hml, hown, ht⟩ (k_X8_in l g A M (nI i) (nI 0) (nI 1)) (cwS 3 ht (gUS uw_630 uw_631 uw_42 uw_632) rfl rfl rfl (by decide +kernel) ⟨by decide, by decide⟩) hK hM hS rfl hl.1 rfl (Nat.le_of_ble_eq_true rfl) dX8_save_3 ⟨by decide, by decide⟩ (fun H locs hM hS => ?_)
    refine lv_if_ne (tgt := 12) hx hb dX8_save_6 (by decide) (fun c_6 => ?_) (fun c_6 => absurd c_6 (gx_inn (n := 1) (by omega) (by decide)))
    refine lv_iconst (v := nI 0) hx hb dX8_save_12 (by first | rfl | decide) ?_
    refine lv_istore_n (lv' := [(2, .int (nI 0)), (0, .ref (Y)), (1, .int (nI i))]) hx hb dX8_save_13 rfl hl (by decide) rfl (fun ls hl => ?_)
    have loop_14 : ∀ (z_14 : Nat) (q9 : Nat) (M : MM) (H : Heap) (locs : List Loc) (ls : Array Slot), 226 - q9 < z_14 → q9 ≤ 226 → HD g A M H → RepM g A M Y σ (va_up ar 3 (wrN i q9 (ar 3) σ)) ns → FrM Y M0 M → va_S A s.heap H locs → lv_has ls 3 [(2, .int (nI q9)), (0, .ref (Y)), (1, .int (nI i))] → W p l e (rmD 1) s m aa below meth c H locs 0 0 Q (F0 m 14 ls []) := by
      intro z_14
      induction z_14 with
      | zero => intro q9 M H locs ls hz hq9; exact absurd hz (Nat.not_lt_zero _)
      | succ z_14 ih_14 =>
      intro q9 M H locs ls hz hq9 hM hR hF hS hl
      refine lv_iload_n hx hb dX8_save_14 rfl (lv_at hl 0 rfl) ?_
      refine lv_sipush (v := nI 226) hx hb dX8_save_15 (by first | rfl | decide) ?_
      refine lv_icmp_ge (tgt := 45) hx hb dX8_save_18 (by decide) (fun c_18 => ?_) (fun c_18 => ?_)
      · have hq6 : q9 = 226 := Nat.le_antisymm hq9 (nI_le_of (by omega) (by decide) c_18)
        subst hq6
        refine lv_aload_n hx hb dX8_save_45 rfl (lv_at hl 1 rfl) ?_
        refine rm_getA4 hx hb ht ui_X8 hown hK hM hR (ht _ uw_599) dX8_save_46 ?_
        refine lv_iload_n hx hb dX8_save_49 rfl (lv_at hl 2 rfl) ?_
        refine lv_iconst (v := nI 1) hx hb dX8_save_50 (by first | rfl | decide) ?_
        refine rm_zast hx hb hK hM hS hR hF (i := i) (hi) dX8_save_51 (fun M H locs hM hR hF hS => ?_)
        refine lv_aload_n hx hb dX8_save_52 rfl (lv_at hl 1 rfl) ?_
        refine rm_getS hx hb ht ui_X8 hown hK hM hR (ht _ uw_594) dX8_save_53 ?_
        refine lv_bipush (v := nI 104) hx hb dX8_save_56 (by first | rfl | decide) ?_
        refine rm_sald hx hb hK hM hR (i := 104) (by omega) dX8_save_58 ?_
        subst hQ
        exact m_zret hx hb hr (rfl) hlk hK hM hS dX8_save_59 (by rw [mSave_y e1]; exact ⟨rfl, hR, hF⟩)
      · have hq6 : q9 < 226 := nI_lt_of (by omega) (by decide) c_18
        refine lv_aload_n hx hb dX8_save_21 rfl (lv_at hl 1 rfl) ?_
        refine rm_getA3 hx hb ht ui_X8 hown hK hM hR (ht _ uw_598) dX8_save_22 ?_
        refine lv_sipush (v := nI 226) hx hb dX8_save_25 (by first | rfl | decide) ?_
        refine lv_iload_n hx hb dX8_save_28 rfl (lv_at hl 2 rfl) ?_
        refine lv_imul hx hb dX8_save_29 ?_
        rw [pk_mul (226) (i)]
        refine lv_iload_n hx hb dX8_save_30 rfl (lv_at hl 0 rfl) ?_
        refine lv_iadd hx hb dX8_save_31 ?_
        rw [nI_add ((226 * i)) (q9)]
        refine lv_aload_n hx hb dX8_save_32 rfl (lv_at hl 1 rfl) ?_
        refine rm_getS hx hb ht ui_X8 hown hK hM hR (ht _ uw_594) dX8_save_33 ?_
        refine lv_iload_n hx hb dX8_save_36 rfl (lv_at hl 0 rfl) ?_
        refine rm_sald hx hb hK hM hR (i := q9) (by omega) dX8_save_37 ?_
        refine rm_aast hx hb hK hM hS hR hF 3 (by decide) (by decide) (by decide) (i := ((226 * i) + q9)) (show 226 * i + q9 < 452 by omega) dX8_save_38 (fun M H locs hM hR hF hS => ?_)
        refine lv_iinc (v := nI (q9 + 1)) (lv' := [(2, .int (nI (q9 + 1))), (0, .ref (Y)), (1, .int (nI i))]) hx hb dX8_save_39 hl (k := 0) rfl (nI_1 _) (by decide) rfl (fun ls hl => ?_)
        refine lv_goto (tgt := 14) hx hb dX8_save_42 (by decide) ?_
        exact ih_14 (q9 + 1) _ _ _ _ (by omega) (by omega) hM (hR.eqv rfl (by rw [wrN_up, va_upup, va_up_self]) rfl) hF hS (lv_sub hl [0, 1, 2] rfl)
    exact loop_14 _ 0 _ _ _ _ (Nat.lt_succ_self _) (by omega) hM (hR.eqv rfl (by rw [wrN_0]; exact funext (fun z => va_upself rfl z)) rfl) hF hS (lv_sub hl [0, 1, 2] rfl)

set_option maxHeartbeats 4000000 in
set_option maxRecDepth 100000 in
/-- restore -/
theorem k_X8_restore (l : Launch) (g : GG) (A : Nat → Prop) (M0 : MM) (Y : Nat) (σ : Nat → Int32) (ar : Nat → Nat → Int32) (ns : Nat → Int32) (hR : RepM g A M0 Y σ ar ns) (k : Nat) (hk : k ≤ 6) (hkn : ns 0 = nI k) (x : Int32)  : Met l yX8_restore (Uw yX8_restore cX8_restore 3 (Option.some ClassFile.FieldType.int)) (rmD 1) (PreM [.ref (Y), .int (x)] g A M0) (PosI (fun r M1 => r = (mRestore k (σ, ar, ns) x).1 ∧ RepMS g A M1 Y (mRestore k (σ, ar, ns) x).2 ∧ FrM Y M0 M1) g A) 0 0 A := by
  refine mk_Met (own := RX8) rfl rfl (by decide) (Nat.le_of_ble_eq_true rfl) ?_
  intro p e s m below meth c ls aa Q haa hQ hx hb hr hlk hml hown hts hK hM hS hl hnm
  obtain ⟨M, hMM⟩ : ∃ M, M = M0 := ⟨_, rfl⟩
  rw [← hMM] at hM hR
  have ht : ∀ w ∈ lw_good, w.before _ s = true := fun w h => hts w (List.mem_cons_of_mem _ h)
  have hF : FrM Y M0 M := by rw [hMM]; exact FrM.rf
  have hl : lv_has ls 3 [(0, .ref (Y)), (1, .int (x))] := hl
  rcases gxn_cases (n := 2) (by decide) x with ⟨e1, h1⟩ | ⟨i, hi, rfl, e1⟩
  · refine lv_iload_n hx hb dX8_restore_0 rfl (lv_at hl 1 rfl) ?_
    refine lv_iconst (v := nI 0) hx hb dX8_restore_1 (by first | rfl | decide) ?_
    refine lv_iconst (v := nI 1) hx hb dX8_restore_2 (by first | rfl | decide) ?_
    refine m_callRSI (val := winC (x) (nI 0) (nI 1)) (As := [.int (x), .int (nI 0), .int (nI 1)]) (rest := []) ⟨hx, hb, hml, hown, ht⟩ (k_X8_in l g A M (x) (nI 0) (nI 1)) (cwS 3 ht (gUS uw_630 uw_631 uw_42 uw_632) rfl rfl rfl (by decide +kernel) ⟨by decide, by decide⟩) hK hM hS rfl hl.1 rfl (Nat.le_of_ble_eq_true rfl) dX8_restore_3 ⟨by decide, by decide⟩ (fun H locs hM hS => ?_)
    refine lv_if_ne (tgt := 12) hx hb dX8_restore_6 (by decide) (fun c_6 => absurd (gx_out (n := 1) (by decide) e1) c_6) (fun c_6 => ?_)
    refine lv_ldc (v := (-1000002)) hx hb hown (ht _ uw_633) dX8_restore_9 ?_
    subst hQ
    exact m_zret hx hb hr (rfl) hlk hK hM hS dX8_restore_11 (by rw [mRestore_n e1]; exact ⟨rfl, hR, hF⟩)
  · refine lv_iload_n hx hb dX8_restore_0 rfl (lv_at hl 1 rfl) ?_
    refine lv_iconst (v := nI 0) hx hb dX8_restore_1 (by first | rfl | decide) ?_
    refine lv_iconst (v := nI 1) hx hb dX8_restore_2 (by first | rfl | decide) ?_
    refine m_callRSI (val := winC (nI i) (nI 0) (nI 1)) (As := [.int (nI i), .int (nI 0), .int (nI 1)]) (rest := []) ⟨hx, hb, hml, hown, ht⟩ (k_X8_in l g A M (nI i) (nI 0) (nI 1)) (cwS 3 ht (gUS uw_630 uw_631 uw_42 uw_632) rfl rfl rfl (by decide +kernel) ⟨by decide, by decide⟩) hK hM hS rfl hl.1 rfl (Nat.le_of_ble_eq_true rfl) dX8_restore_3 ⟨by decide, by decide⟩ (fun H locs hM hS => ?_)
    refine lv_if_ne (tgt := 12) hx hb dX8_restore_6 (by decide) (fun c_6 => ?_) (fun c_6 => absurd c_6 (gx_inn (n := 1) (by omega) (by decide)))
    refine lv_aload_n hx hb dX8_restore_12 rfl (lv_at hl 0 rfl) ?_
    refine rm_getA4 hx hb ht ui_X8 hown hK hM hR (ht _ uw_599) dX8_restore_13 ?_
    refine lv_iload_n hx hb dX8_restore_16 rfl (lv_at hl 1 rfl) ?_
    refine rm_zald hx hb hK hM hR (i := i) (hi) dX8_restore_17 ?_
    refine lv_if_ne (tgt := 24) hx hb dX8_restore_18 (by decide) (fun c_18 => ?_) (fun c_18 => ?_)
    · refine lv_aload_n hx hb dX8_restore_24 rfl (lv_at hl 0 rfl) ?_
      refine m_callV (As := []) (rest := []) ⟨hx, hb, hml, hown, ht⟩ (k_X8_save0 l g A M Y σ ar ns hR k hk hkn) (cwV 0 ht (gU uw_634 uw_636 uw_11 uw_42 uw_637) rfl rfl rfl (by decide +kernel) ⟨by decide, by decide⟩) hK hM hS (m_recv hK hM (hR.1 Y (by omega) (by omega)) hR.2.1 rfl) rfl hl.1 rfl (Nat.le_of_ble_eq_true rfl) dX8_restore_25 ⟨by decide, by decide⟩ (fun M H locs hp hM hS => ?_)
      obtain ⟨hR, hF1⟩ := hp
      have hF := hF.tr hF1
      refine lv_iconst (v := nI 0) hx hb dX8_restore_28 (by first | rfl | decide) ?_
      refine lv_istore_n (lv' := [(2, .int (nI 0)), (0, .ref (Y)), (1, .int (nI i))]) hx hb dX8_restore_29 rfl hl (by decide) rfl (fun ls hl => ?_)
      have loop_30 : ∀ (z_30 : Nat) (q9 : Nat) (M : MM) (H : Heap) (locs : List Loc) (ls : Array Slot), 226 - q9 < z_30 → q9 ≤ 226 → HD g A M H → RepM g A M Y (cpN q9 σ (fun z => ar 3 (226 * i + z))) (va_up ar 2 (savB k (ar 2) σ)) (va_up ns 0 (nI (recK k))) → FrM Y M0 M → va_S A s.heap H locs → lv_has ls 3 [(2, .int (nI q9)), (0, .ref (Y)), (1, .int (nI i))] → W p l e (rmD 1) s m aa below meth c H locs 0 0 Q (F0 m 30 ls []) := by
        intro z_30
        induction z_30 with
        | zero => intro q9 M H locs ls hz hq9; exact absurd hz (Nat.not_lt_zero _)
        | succ z_30 ih_30 =>
        intro q9 M H locs ls hz hq9 hM hR hF hS hl
        refine lv_iload_n hx hb dX8_restore_30 rfl (lv_at hl 0 rfl) ?_
        refine lv_sipush (v := nI 226) hx hb dX8_restore_31 (by first | rfl | decide) ?_
        refine lv_icmp_ge (tgt := 61) hx hb dX8_restore_34 (by decide) (fun c_34 => ?_) (fun c_34 => ?_)
        · have hq6 : q9 = 226 := Nat.le_antisymm hq9 (nI_le_of (by omega) (by decide) c_34)
          subst hq6
          refine lv_aload_n hx hb dX8_restore_61 rfl (lv_at hl 1 rfl) ?_
          refine rm_getS hx hb ht ui_X8 hown hK hM hR (ht _ uw_594) dX8_restore_62 ?_
          refine lv_bipush (v := nI 104) hx hb dX8_restore_65 (by first | rfl | decide) ?_
          refine rm_sald hx hb hK hM hR (i := 104) (by omega) dX8_restore_67 ?_
          subst hQ
          exact m_zret hx hb hr (rfl) hlk hK hM hS dX8_restore_68 (by rw [mRestore_y e1 c_18]; exact ⟨rfl, hR, hF⟩)
        · have hq6 : q9 < 226 := nI_lt_of (by omega) (by decide) c_34
          refine lv_aload_n hx hb dX8_restore_37 rfl (lv_at hl 1 rfl) ?_
          refine rm_getS hx hb ht ui_X8 hown hK hM hR (ht _ uw_594) dX8_restore_38 ?_
          refine lv_iload_n hx hb dX8_restore_41 rfl (lv_at hl 0 rfl) ?_
          refine lv_aload_n hx hb dX8_restore_42 rfl (lv_at hl 1 rfl) ?_
          refine rm_getA3 hx hb ht ui_X8 hown hK hM hR (ht _ uw_598) dX8_restore_43 ?_
          refine lv_sipush (v := nI 226) hx hb dX8_restore_46 (by first | rfl | decide) ?_
          refine lv_iload_n hx hb dX8_restore_49 rfl (lv_at hl 2 rfl) ?_
          refine lv_imul hx hb dX8_restore_50 ?_
          rw [pk_mul (226) (i)]
          refine lv_iload_n hx hb dX8_restore_51 rfl (lv_at hl 0 rfl) ?_
          refine lv_iadd hx hb dX8_restore_52 ?_
          rw [nI_add ((226 * i)) (q9)]
          refine rm_aald hx hb hK hM hR 3 (by decide) (by decide) (by decide) (i := ((226 * i) + q9)) (show 226 * i + q9 < 452 by omega) dX8_restore_53 ?_
          refine rm_sast hx hb hK hM hS hR hF (i := q9) (by omega) dX8_restore_54 (fun M H locs hM hR hF hS => ?_)
          refine lv_iinc (v := nI (q9 + 1)) (lv' := [(2, .int (nI (q9 + 1))), (0, .ref (Y)), (1, .int (nI i))]) hx hb dX8_restore_55 hl (k := 0) rfl (nI_1 _) (by decide) rfl (fun ls hl => ?_)
          refine lv_goto (tgt := 30) hx hb dX8_restore_58 (by decide) ?_
          exact ih_30 (q9 + 1) _ _ _ _ (by omega) (by omega) hM (hR.eqv (cpN_up _ _ _) rfl rfl) hF hS (lv_sub hl [0, 1, 2] rfl)
      exact loop_30 _ 0 _ _ _ _ (Nat.lt_succ_self _) (by omega) hM (hR.eqv (cpN_0 _ _) rfl rfl) hF hS (lv_sub hl [0, 1, 2] rfl)
    · refine lv_ldc (v := (-1000005)) hx hb hown (ht _ uw_808) dX8_restore_21 ?_
      subst hQ
      exact m_zret hx hb hr (rfl) hlk hK hM hS dX8_restore_23 (by rw [mRestore_0 e1 c_18]; exact ⟨rfl, hR, hF⟩)
