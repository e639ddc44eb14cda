/-! what the model needs of its row that no call throws, and what keeps it -/
def TI (σ : Nat → Int32) (n : Nat) : Prop := (∃ w0, 4 ≤ w0 ∧ w0 ≤ 60 ∧ σ 102 = nI w0) ∧ (∀ i, i < 6 → 1 ≤ (σ (17 * i)).toInt ∧ (σ (17 * i)).toInt ≤ 9) ∧ (∀ i, i < 6 → 1 ≤ (σ (17 * i + 1)).toInt ∧ (σ (17 * i + 1)).toInt ≤ 50) ∧ (∀ i, i < 6 → -60 ≤ (σ (17 * i + 10)).toInt ∧ (σ (17 * i + 10)).toInt ≤ 60) ∧ (∀ i, i < 6 → 0 ≤ (σ (17 * i + 12)).toInt ∧ (σ (17 * i + 12)).toInt ≤ 33000000) ∧ (∀ r, r < n → ∃ i, i < 6 ∧ σ (106 + 6 * r) = nI i) ∧ (∀ r, r < n → -60 ≤ (σ (106 + 6 * r + 1)).toInt ∧ (σ (106 + 6 * r + 1)).toInt ≤ 60) ∧ (∀ r, r < n → 0 ≤ (σ (106 + 6 * r + 5)).toInt ∧ (σ (106 + 6 * r + 5)).toInt ≤ 33000000)
theorem TI.cg {σ τ : Nat → Int32} {n m : Nat} (h : TI σ n) (h102 : τ 102 = σ 102) (h0 : ∀ i, i < 6 → τ (17 * i) = σ (17 * i)) (h1 : ∀ i, i < 6 → τ (17 * i + 1) = σ (17 * i + 1)) (h10 : ∀ i, i < 6 → τ (17 * i + 10) = σ (17 * i + 10)) (h12 : ∀ i, i < 6 → τ (17 * i + 12) = σ (17 * i + 12)) (hr : ∀ r, r < m → ∃ q, q < n ∧ ∀ j, j < 6 → τ (106 + 6 * r + j) = σ (106 + 6 * q + j)) : TI τ m := by
  obtain ⟨a1, a2, a3, a4, a5, a6, a7, a8⟩ := h
  refine ⟨by rw [h102]; exact a1, fun i hi => by rw [h0 i hi]; exact a2 i hi, fun i hi => by rw [h1 i hi]; exact a3 i hi, fun i hi => by rw [h10 i hi]; exact a4 i hi, fun i hi => by rw [h12 i hi]; exact a5 i hi, fun r hrm => ?_, fun r hrm => ?_, fun r hrm => ?_⟩
  · obtain ⟨q, hq, e⟩ := hr r hrm
    have := e 0 (by omega)
    rw [show τ (106 + 6 * r) = σ (106 + 6 * q) from this]
    exact a6 q hq
  · obtain ⟨q, hq, e⟩ := hr r hrm
    rw [e 1 (by omega)]
    exact a7 q hq
  · obtain ⟨q, hq, e⟩ := hr r hrm
    rw [e 5 (by omega)]
    exact a8 q hq
theorem TI.up {σ : Nat → Int32} {n i k : Nat} (h : TI σ n) (hi : i < 6) (hk : k < 17) (hk0 : k ≠ 0) (hk1 : k ≠ 1) (hk10 : k ≠ 10) (hk12 : k ≠ 12) (x : Int32) : TI (va_up σ (17 * i + k) x) n :=
  h.cg (va_up_ne _ _ (by omega)) (fun j hj => va_up_ne _ _ (by omega)) (fun j hj => va_up_ne _ _ (by omega)) (fun j hj => va_up_ne _ _ (by omega)) (fun j hj => va_up_ne _ _ (by omega)) (fun r hr => ⟨r, hr, fun j hj => va_up_ne _ _ (by omega)⟩)
theorem TI.up1 {σ : Nat → Int32} {n q : Nat} (h : TI σ n) (hq : 103 ≤ q ∧ q < 106) (x : Int32) : TI (va_up σ q x) n :=
  h.cg (va_up_ne _ _ (by omega)) (fun j hj => va_up_ne _ _ (by omega)) (fun j hj => va_up_ne _ _ (by omega)) (fun j hj => va_up_ne _ _ (by omega)) (fun j hj => va_up_ne _ _ (by omega)) (fun r hr => ⟨r, hr, fun j hj => va_up_ne _ _ (by omega)⟩)
theorem TI.up10 {σ : Nat → Int32} {n i : Nat} (h : TI σ n) (hi : i < 6) {x : Int32} (h1 : -60 ≤ x.toInt) (h2 : x.toInt ≤ 60) : TI (va_up σ (17 * i + 10) x) n := by
  obtain ⟨a1, a2, a3, a4, a5, a6, a7, a8⟩ := h
  refine ⟨by rw [va_up_ne _ _ (by omega)]; exact a1, fun j hj => by rw [va_up_ne _ _ (by omega)]; exact a2 j hj, fun j hj => by rw [va_up_ne _ _ (by omega)]; exact a3 j hj, fun j hj => ?_, fun j hj => by rw [va_up_ne _ _ (by omega)]; exact a5 j hj, fun r hr => by rw [va_up_ne _ _ (by omega)]; exact a6 r hr, fun r hr => by rw [va_up_ne _ _ (by omega)]; exact a7 r hr, fun r hr => by rw [va_up_ne _ _ (by omega)]; exact a8 r hr⟩
  by_cases hji : j = i
  · rw [hji, va_up_self]; exact ⟨h1, h2⟩
  · rw [va_up_ne _ _ (by omega)]; exact a4 j hj
theorem TI.up12 {σ : Nat → Int32} {n i : Nat} (h : TI σ n) (hi : i < 6) {x : Int32} (h1 : 0 ≤ x.toInt) (h2 : x.toInt ≤ 33000000) : TI (va_up σ (17 * i + 12) x) n := by
  obtain ⟨a1, a2, a3, a4, a5, a6, a7, a8⟩ := h
  refine ⟨by rw [va_up_ne _ _ (by omega)]; exact a1, fun j hj => by rw [va_up_ne _ _ (by omega)]; exact a2 j hj, fun j hj => by rw [va_up_ne _ _ (by omega)]; exact a3 j hj, fun j hj => by rw [va_up_ne _ _ (by omega)]; exact a4 j hj, fun j hj => ?_, fun r hr => by rw [va_up_ne _ _ (by omega)]; exact a6 r hr, fun r hr => by rw [va_up_ne _ _ (by omega)]; exact a7 r hr, fun r hr => by rw [va_up_ne _ _ (by omega)]; exact a8 r hr⟩
  by_cases hji : j = i
  · rw [hji, va_up_self]; exact ⟨h1, h2⟩
  · rw [va_up_ne _ _ (by omega)]; exact a5 j hj
theorem div_ti {x y : Int32} (hy : 1 ≤ y.toInt) : (x / y).toInt = x.toInt.tdiv y.toInt := Int32.toInt_div_of_ne_right x y (fun q => by rw [q] at hy; exact absurd hy (by decide))
theorem div_bd {x y : Int32} (hy : 1 ≤ y.toInt) {B : Int} (h1 : -B ≤ x.toInt) (h2 : x.toInt ≤ B) : -B ≤ (x / y).toInt ∧ (x / y).toInt ≤ B := by
  rw [div_ti hy]
  have := Int.natAbs_tdiv_le_natAbs x.toInt y.toInt
  omega
theorem TI.TB {σ : Nat → Int32} {n i : Nat} (h : TI σ n) (hi : i < 6) {x c : Int32} (h1 : -60 ≤ x.toInt) (h2 : x.toInt ≤ 60) (h3 : 0 ≤ c.toInt) (h4 : c.toInt ≤ 33000000) : TB σ i x c := by
  obtain ⟨⟨w0, b1, b2, b3⟩, a2, a3, a4, a5, -⟩ := h
  have m0 := a2 0 (by omega)
  have mi := a2 i hi
  have ci := a3 i hi
  have wi := a4 i hi
  have ki := a5 i hi
  have hw : (nI w0).toInt = w0 := nI_ti (by omega)
  have e1 : (x - σ (17 * i + 10)).toInt = x.toInt - (σ (17 * i + 10)).toInt := ti_sub (by omega) (by omega)
  have z0 : (0 : Int32).toInt = 0 := rfl
  refine ⟨⟨w0, b1, b2, b3⟩, fun q => ?_, fun q => ?_, ?_, ?_, ?_⟩
  · have : (σ (17 * 0)).toInt = 0 := by rw [show σ (17 * 0) = 0 from q]; rfl
    omega
  · rw [q] at ci; rw [z0] at ci; omega
  · unfold tel2
    split
    · rw [b3, ti_add (by rw [e1, hw]; omega) (by rw [e1, hw]; omega), e1, hw]; omega
    · rw [ti_add (by rw [e1, z0]; omega) (by rw [e1, z0]; omega), e1, z0]; omega
  · unfold tel2
    split
    · rw [b3, ti_add (by rw [e1, hw]; omega) (by rw [e1, hw]; omega), e1, hw]; omega
    · rw [ti_add (by rw [e1, z0]; omega) (by rw [e1, z0]; omega), e1, z0]; omega
  · have e2 : (c - σ (17 * i + 12)).toInt = c.toInt - (σ (17 * i + 12)).toInt := ti_sub (by omega) (by omega)
    have hb : -297000000 ≤ (c - σ (17 * i + 12)).toInt * (σ (17 * i + 0)).toInt ∧ (c - σ (17 * i + 12)).toInt * (σ (17 * i + 0)).toInt ≤ 297000000 := by
      have hm : (σ (17 * i + 0)).toInt = (σ (17 * i)).toInt := rfl
      rw [e2, hm]
      have hm1 := mi.1
      have hm2 := mi.2
      have hd : -33000000 ≤ c.toInt - (σ (17 * i + 12)).toInt ∧ c.toInt - (σ (17 * i + 12)).toInt ≤ 33000000 := by omega
      generalize (σ (17 * i)).toInt = m at hm1 hm2 ⊢
      generalize c.toInt - (σ (17 * i + 12)).toInt = d at hd ⊢
      rcases (by omega : m = 1 ∨ m = 2 ∨ m = 3 ∨ m = 4 ∨ m = 5 ∨ m = 6 ∨ m = 7 ∨ m = 8 ∨ m = 9) with rfl | rfl | rfl | rfl | rfl | rfl | rfl | rfl | rfl <;> omega
    have e3 : ((c - σ (17 * i + 12)) * σ (17 * i + 0)).toInt = (c - σ (17 * i + 12)).toInt * (σ (17 * i + 0)).toInt := ti_mul (by omega) (by omega)
    have d1 := div_bd (x := (c - σ (17 * i + 12)) * σ (17 * i + 0)) (y := σ (17 * 0 + 0)) m0.1 (B := 297000000) (by rw [e3]; exact hb.1) (by rw [e3]; exact hb.2)
    have d2 := div_bd (x := (c - σ (17 * i + 12)) * σ (17 * i + 0) / σ (17 * 0 + 0)) (y := σ (17 * i + 1)) ci.1 (B := 297000000) d1.1 d1.2
    unfold telE
    omega
theorem telC_o {σ : Nat → Int32} {i q : Nat} {x h t c : Int32} (hi : i < 6) (hq : 102 ≤ q) : telC σ i x h t c q = σ q := by
  unfold telC telT
  split
  · exact va_up_ne _ _ (by omega)
  · split
    · exact va_up_ne _ _ (by omega)
    · dsimp only
      rw [va_up_ne _ _ (by omega), va_up_ne _ _ (by omega), va_up_ne _ _ (by omega), va_up_ne _ _ (by omega), va_up_ne _ _ (by omega), va_up_ne _ _ (by omega)]
theorem TI.telC {σ : Nat → Int32} {n i : Nat} (T : TI σ n) (hi : i < 6) {x h t c : Int32} (h1 : -60 ≤ x.toInt) (h2 : x.toInt ≤ 60) (h3 : 0 ≤ c.toInt) (h4 : c.toInt ≤ 33000000) : TI (telC σ i x h t c) n := by
  unfold Jvm.Pilot.@@N@@.telC telT
  split
  · exact T.up hi (by omega) (by omega) (by omega) (by omega) (by omega) _
  · split
    · exact T.up hi (by omega) (by omega) (by omega) (by omega) (by omega) _
    · dsimp only
      refine TI.up12 (TI.up (TI.up10 (TI.up (TI.up (TI.up T hi (by omega) (by omega) (by omega) (by omega) (by omega) _) hi (by omega) (by omega) (by omega) (by omega) (by omega) _) hi (by omega) (by omega) (by omega) (by omega) (by omega) _) hi h1 h2) hi (by omega) (by omega) (by omega) (by omega) (by omega) _) hi h3 h4
theorem drM_row {k n : Nat} {σ : Nat → Int32} {r j : Nat} (hr : r + 1 < n) (hj : j < 6) : drM k n σ (106 + 6 * r + j) = σ (106 + 6 * (if r < k then r else r + 1) + j) := by
  unfold drM drB drA
  rw [if_neg (by omega), if_neg (by omega)]
  by_cases h : r < k
  · rw [if_neg (by omega), if_pos h]
  · rw [if_pos (by omega), if_neg h]
    congr 1
    omega
theorem drM_o {k n : Nat} {σ : Nat → Int32} {q : Nat} (hq : q < 105) : drM k n σ q = σ q := by
  unfold drM drB drA
  rw [if_neg (by omega), if_neg (by omega), if_neg (by omega)]
theorem drM_105 {k n : Nat} {σ : Nat → Int32} : drM k n σ 105 = nI (n - 1) := by
  unfold drM drB drA
  rw [if_neg (by omega), if_pos rfl]
theorem TI.drM {σ : Nat → Int32} {n k : Nat} (T : TI σ n) (hk : k < n) : TI (drM k n σ) (n - 1) :=
  T.cg (drM_o (by omega)) (fun i hi => drM_o (by omega)) (fun i hi => drM_o (by omega)) (fun i hi => drM_o (by omega)) (fun i hi => drM_o (by omega)) (fun r hr => ⟨if r < k then r else r + 1, by split <;> omega, fun j hj => drM_row (by omega) hj⟩)
/-- those whose hours have passed come: u runners from k on -/
def comC : Nat → Nat → (Nat → Int32) → Nat → Int32
  | 0, _, σ => σ
  | u + 1, k, σ => if σ (106 + 6 * k + 3) ≤ σ 104 then comC u k (drM k (k + u + 1) (telC σ (σ (106 + 6 * k)).toNatClampNeg (σ (106 + 6 * k + 1)) (σ (106 + 6 * k + 2)) (σ (106 + 6 * k + 4)) (σ (106 + 6 * k + 5)))) else comC u (k + 1) σ
def TN (σ : Nat → Int32) : Prop := ∃ n, n ≤ 20 ∧ σ 105 = nI n ∧ TI σ n
theorem comC_TN : ∀ (u k : Nat) (σ : Nat → Int32), k + u ≤ 20 → σ 105 = nI (k + u) → TI σ (k + u) → TN (comC u k σ) := by
  intro u
  induction u with
  | zero => intro k σ h1 h2 h3; exact ⟨k, h1, h2, h3⟩
  | succ u ih =>
    intro k σ h1 h2 h3
    unfold comC
    split
    · obtain ⟨i, hi, e⟩ := h3.2.2.2.2.2.1 k (by omega)
      have b1 := h3.2.2.2.2.2.2.1 k (by omega)
      have b5 := h3.2.2.2.2.2.2.2 k (by omega)
      rw [e, nI_clamp (show i < 2 ^ 31 by omega)]
      exact ih k _ (by omega) (by rw [drM_105]; rfl) (by
        have := (h3.telC hi (h := σ (106 + 6 * k + 2)) (t := σ (106 + 6 * k + 4)) b1.1 b1.2 b5.1 b5.2).drM (k := k) (by omega)
        exact this)
    · exact ih (k + 1) σ (by omega) (by rw [h2]; congr 1; omega) (by
        have e : k + 1 + u = k + (u + 1) := by omega
        rw [e]; exact h3)
/-- an hour's rain for a gauge, as the model has it -/
def catM2 (σ : Nat → Int32) (i : Nat) (c n : Int32) : Nat → Int32 :=
  let s1 := va_up σ (17 * i + 6) (σ (17 * i + 6) + c)
  let s2 := va_up s1 (17 * i + 4) (s1 (17 * i + 4) + c)
  let s3 := va_up s2 (17 * i + 4) (s2 (17 * i + 4) + -n * s2 (17 * i + 1))
  let s4 := va_up s3 (17 * i + 7) (s3 (17 * i + 7) + n * s3 (17 * i + 1))
  va_up s4 (17 * i + 5) (s4 (17 * i + 5) + n)
def felM (σ : Nat → Int32) (i : Nat) (am : Int32) : Int32 := am * σ (17 * i + 0) * σ (17 * i + 2) / 100
def tipM (σ : Nat → Int32) (i : Nat) (c : Int32) : Int32 :=
  let s1 := va_up σ (17 * i + 6) (σ (17 * i + 6) + c)
  let s2 := va_up s1 (17 * i + 4) (s1 (17 * i + 4) + c)
  s2 (17 * i + 4) / s2 (17 * i + 1)
def catM (σ : Nat → Int32) (i : Nat) (am : Int32) : Nat → Int32 := catM2 σ i (felM σ i am) (tipM σ i (felM σ i am))
def catML (am : Int32) (σ : Nat → Int32) : Nat → Nat → Int32
  | 0 => σ
  | i + 1 => catM (catML am σ i) i am
def tisM (am : Int32) (σ : Nat → Int32) (t : Int32) : Nat → Int32
  | 0 => t
  | i + 1 => tisM am σ t i + tipM (catML am σ i) i (felM (catML am σ i) i am)
theorem catM_o {σ : Nat → Int32} {i q : Nat} {am : Int32} (hi : i < 6) (hq : 102 ≤ q) : catM σ i am q = σ q := by
  unfold catM catM2
  try dsimp only
  rw [va_up_ne _ _ (by omega), va_up_ne _ _ (by omega), va_up_ne _ _ (by omega), va_up_ne _ _ (by omega), va_up_ne _ _ (by omega)]
theorem TI.catM {σ : Nat → Int32} {n i : Nat} (T : TI σ n) (hi : i < 6) (am : Int32) : TI (catM σ i am) n := by
  unfold Jvm.Pilot.@@N@@.catM catM2
  try dsimp only
  exact TI.up (TI.up (TI.up (TI.up (TI.up T hi (by omega) (by omega) (by omega) (by omega) (by omega) _) hi (by omega) (by omega) (by omega) (by omega) (by omega) _) hi (by omega) (by omega) (by omega) (by omega) (by omega) _) hi (by omega) (by omega) (by omega) (by omega) (by omega) _) hi (by omega) (by omega) (by omega) (by omega) (by omega) _
theorem catML_o {σ : Nat → Int32} {am : Int32} {q : Nat} (hq : 102 ≤ q) : ∀ i, i ≤ 6 → catML am σ i q = σ q := by
  intro i
  induction i with
  | zero => intro _; rfl
  | succ i ih => intro h; exact (catM_o (by omega) hq).trans (ih (by omega))
theorem TI.catML {σ : Nat → Int32} {n : Nat} (T : TI σ n) (am : Int32) : ∀ i, i ≤ 6 → TI (catML am σ i) n := by
  intro i
  induction i with
  | zero => intro _; exact T
  | succ i ih => intro h; exact (ih (by omega)).catM (by omega) am
def ho1M (am : Int32) (σ : Nat → Int32) : Nat → Int32 := va_up (catML am σ 6) 104 (catML am σ 6 104 + 1)
theorem TI.ho1M {σ : Nat → Int32} {n : Nat} (T : TI σ n) (am : Int32) : TI (ho1M am σ) n := (T.catML am 6 (by omega)).up1 (by omega) _
theorem ho1M_105 {σ : Nat → Int32} {am : Int32} : ho1M am σ 105 = σ 105 := (va_up_ne _ _ (by omega)).trans (catML_o (by omega) 6 (by omega))
def houM (am : Int32) (σ : Nat → Int32) : Nat → Int32 := comC (σ 105).toNatClampNeg 0 (ho1M am σ)
theorem houM_TN {σ : Nat → Int32} (h : TN σ) (am : Int32) : TN (houM am σ) := by
  obtain ⟨n, hn, e, T⟩ := h
  unfold houM
  rw [e, nI_clamp (show n < 2 ^ 31 by omega)]
  exact comC_TN n 0 _ (by omega) (by rw [ho1M_105, e, Nat.zero_add]) (by rw [Nat.zero_add]; exact T.ho1M am)
def pasM (am : Int32) (σ : Nat → Int32) : Nat → Nat → Int32
  | 0 => σ
  | q + 1 => houM am (pasM am σ q)
def patM (am : Int32) (σ : Nat → Int32) : Nat → Int32
  | 0 => 0
  | q + 1 => patM am σ q + tisM am (pasM am σ q) 0 6
theorem pasM_TN {σ : Nat → Int32} (h : TN σ) (am : Int32) (q : Nat) : TN (pasM am σ q) := by
  induction q with
  | zero => exact h
  | succ q ih => exact houM_TN ih am
def whM (σ : Nat → Int32) (i : Nat) : Int32 := σ (17 * i + 5) - σ (17 * i + 5) / σ 102 * σ 102
/-- the row of one who is sent -/
def sndC (σ : Nat → Int32) (i n : Nat) : Nat → Int32 :=
  let s1 := va_up σ (106 + 6 * n) (nI i)
  let s2 := va_up s1 (106 + 6 * n + 1) (whM σ i)
  let s3 := va_up s2 (106 + 6 * n + 2) (s2 104)
  let s4 := va_up s3 (106 + 6 * n + 3) (s3 104 + s3 (17 * i + 3))
  let s5 := va_up s4 (106 + 6 * n + 4) (s4 (17 * i + 5))
  let s6 := va_up s5 (106 + 6 * n + 5) (s5 (17 * 0 + 6))
  va_up s6 105 (nI n + 1)
theorem irm_bd {x w : Int32} {w0 : Nat} (h1 : 1 ≤ w0) (h2 : w0 ≤ 60) (e : w = nI w0) : -60 ≤ (x - x / w * w).toInt ∧ (x - x / w * w).toInt ≤ 60 := by
  have hw : w.toInt = w0 := by rw [e]; exact nI_ti (by omega)
  have hx1 := Int32.le_toInt x
  have hx2 := Int32.toInt_lt x
  have hd : (x / w).toInt = x.toInt.tdiv w0 := by rw [div_ti (by omega), hw]
  have t1 := Int.tmod_lt_of_pos x.toInt (b := (w0 : Int)) (by omega)
  have t2 := Int.lt_tmod_of_pos x.toInt (b := (w0 : Int)) (by omega)
  have t3 := Int.tmod_add_tdiv_mul x.toInt (w0 : Int)
  have t4 := Int.natAbs_tmod x.toInt (w0 : Int)
  have t5 : (x.toInt.tmod w0).natAbs ≤ x.toInt.natAbs := by rw [t4]; exact Nat.mod_le _ _
  have t6 : (0 ≤ x.toInt → 0 ≤ x.toInt.tmod w0) ∧ (x.toInt ≤ 0 → x.toInt.tmod w0 ≤ 0) := by
    refine ⟨fun h => Int.tmod_nonneg _ h, fun h => ?_⟩
    have := Int.tmod_nonneg (w0 : Int) (show 0 ≤ -x.toInt by omega)
    rw [Int.neg_tmod] at this
    omega
  have hm : (x / w * w).toInt = x.toInt.tdiv w0 * w0 := by
    rw [ti_mul (by rw [hd, hw]; omega) (by rw [hd, hw]; omega), hd, hw]
  rw [ti_sub (by rw [hm]; omega) (by rw [hm]; omega), hm]
  omega
theorem sndC_TI {σ : Nat → Int32} {n i : Nat} (T : TI σ n) (hi : i < 6) (hn : n < 20) (c1 : 0 ≤ (σ (17 * 0 + 6)).toInt) (c2 : (σ (17 * 0 + 6)).toInt ≤ 33000000) : TI (sndC σ i n) (n + 1) ∧ sndC σ i n 105 = nI (n + 1) := by
  obtain ⟨⟨w0, b1, b2, b3⟩, a2, a3, a4, a5, a6, a7, a8⟩ := T
  have hw := irm_bd (x := σ (17 * i + 5)) (w := σ 102) (w0 := w0) (by omega) b2 b3
  have lo : ∀ q, q < 105 → sndC σ i n q = σ q := fun q hq => by
    unfold sndC
    try dsimp only
    rw [va_up_ne _ _ (by omega), va_up_ne _ _ (by omega), va_up_ne _ _ (by omega), va_up_ne _ _ (by omega), va_up_ne _ _ (by omega), va_up_ne _ _ (by omega), va_up_ne _ _ (by omega)]
  have ro : ∀ r j, r < n → j < 6 → sndC σ i n (106 + 6 * r + j) = σ (106 + 6 * r + j) := fun r j hr hj => by
    unfold sndC
    try dsimp only
    rw [va_up_ne _ _ (by omega), va_up_ne _ _ (by omega), va_up_ne _ _ (by omega), va_up_ne _ _ (by omega), va_up_ne _ _ (by omega), va_up_ne _ _ (by omega), va_up_ne _ _ (by omega)]
  have n0 : sndC σ i n (106 + 6 * n) = nI i := by
    unfold sndC
    try dsimp only
    rw [va_up_ne _ _ (by omega), va_up_ne _ _ (by omega), va_up_ne _ _ (by omega), va_up_ne _ _ (by omega), va_up_ne _ _ (by omega), va_up_ne _ _ (by omega), va_up_self]
  have n1 : sndC σ i n (106 + 6 * n + 1) = whM σ i := by
    unfold sndC
    try dsimp only
    rw [va_up_ne _ _ (by omega), va_up_ne _ _ (by omega), va_up_ne _ _ (by omega), va_up_ne _ _ (by omega), va_up_ne _ _ (by omega), va_up_self]
  have n5 : sndC σ i n (106 + 6 * n + 5) = σ (17 * 0 + 6) := by
    unfold sndC
    try dsimp only
    rw [va_up_ne _ _ (by omega), va_up_self, va_up_ne _ _ (by omega), va_up_ne _ _ (by omega), va_up_ne _ _ (by omega), va_up_ne _ _ (by omega), va_up_ne _ _ (by omega)]
  refine ⟨⟨⟨w0, b1, b2, (lo 102 (by omega)).trans b3⟩, fun j hj => by rw [lo _ (by omega)]; exact a2 j hj, fun j hj => by rw [lo _ (by omega)]; exact a3 j hj, fun j hj => by rw [lo _ (by omega)]; exact a4 j hj, fun j hj => by rw [lo _ (by omega)]; exact a5 j hj, fun r hr => ?_, fun r hr => ?_, fun r hr => ?_⟩, ?_⟩
  · by_cases h : r = n
    · rw [h, n0]; exact ⟨i, hi, rfl⟩
    · rw [show sndC σ i n (106 + 6 * r) = σ (106 + 6 * r) from ro r 0 (by omega) (by omega)]; exact a6 r (by omega)
  · by_cases h : r = n
    · rw [h, n1]; exact hw
    · rw [ro r 1 (by omega) (by omega)]; exact a7 r (by omega)
  · by_cases h : r = n
    · rw [h, n5]; exact ⟨c1, c2⟩
    · rw [ro r 5 (by omega) (by omega)]; exact a8 r (by omega)
  · unfold sndC
    try dsimp only
    rw [va_up_self, nI_1]
