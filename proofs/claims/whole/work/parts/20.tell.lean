/-! numbers: the rounds that are guessed, one by one (the model) and at once (the class) -/
theorem bm_eq {x : Int} (h1 : -2147483648 ≤ x) (h2 : x < 2147483648) : x.bmod (2 ^ 32) = x := by
  simp only [Int.bmod]
  split <;> omega
theorem ti_add {x y : Int32} (h1 : -2147483648 ≤ x.toInt + y.toInt) (h2 : x.toInt + y.toInt < 2147483648) : (x + y).toInt = x.toInt + y.toInt := by rw [Int32.toInt_add]; exact bm_eq h1 h2
theorem ti_sub {x y : Int32} (h1 : -2147483648 ≤ x.toInt - y.toInt) (h2 : x.toInt - y.toInt < 2147483648) : (x - y).toInt = x.toInt - y.toInt := by rw [Int32.toInt_sub]; exact bm_eq h1 h2
theorem ti_mul {x y : Int32} (h1 : -2147483648 ≤ x.toInt * y.toInt) (h2 : x.toInt * y.toInt < 2147483648) : (x * y).toInt = x.toInt * y.toInt := by rw [Int32.toInt_mul]; exact bm_eq h1 h2
theorem ti_neg {x : Int32} (h1 : -2147483648 < x.toInt) : (-x).toInt = -x.toInt := by
  have := Int32.toInt_lt x
  rw [Int32.toInt_neg]; exact bm_eq (by omega) (by omega)
theorem ti_le {x y : Int32} : x ≤ y ↔ x.toInt ≤ y.toInt := Int32.le_iff_toInt_le
theorem ti_lt {x y : Int32} : x < y ↔ x.toInt < y.toInt := Int32.lt_iff_toInt_lt
theorem ti_inj {x y : Int32} (h : x.toInt = y.toInt) : x = y := Int32.toInt_inj.mp h
theorem siz_ti {x : Int32} (h : -2147483648 < x.toInt) : (sizC x).toInt = if x.toInt < 0 then -x.toInt else x.toInt := by
  unfold sizC
  by_cases h0 : x < 0
  · rw [if_pos h0, if_pos (show x.toInt < 0 from ti_lt.mp h0), ti_neg h]
  · rw [if_neg h0, if_neg (fun q : x.toInt < 0 => h0 (ti_lt.mpr q))]
def rouW (w m : Int32) : Int32 := if m ≤ 0 ∨ w ≤ 0 then 0 else (2 * m + w - 1) / (2 * w)
/-- how many rounds come nearer -/
def rouK (w : Nat) (m : Int) : Nat := if m ≤ 0 then 0 else ((2 * m + w - 1) / (2 * w)).toNat
theorem rouK_le {w : Nat} (hw : 4 ≤ w) {m : Int} (hm : m ≤ 600000000) : (rouK w m : Int) * (2 * w) ≤ 2 * (if m ≤ 0 then 0 else m) + w := by
  unfold rouK
  split
  · simp
  · rename_i h
    have h1 : 0 ≤ (2 * m + w - 1) / (2 * w) := Int.ediv_nonneg (by omega) (by omega)
    rw [Int.toNat_of_nonneg h1]
    have := Int.ediv_mul_le (2 * m + w - 1) (show (2 * (w : Int)) ≠ 0 by omega)
    omega
theorem rouK_lt {w : Nat} (hw : 4 ≤ w) {m : Int} (j : Nat) : j < rouK w m ↔ (w : Int) < 2 * (m - w * j) := by
  unfold rouK
  split
  · rename_i h
    constructor
    · intro q; omega
    · intro q
      have : 0 ≤ (w : Int) * j := Int.mul_nonneg (by omega) (by omega)
      omega
  · rename_i h
    have h1 : 0 ≤ (2 * m + w - 1) / (2 * w) := Int.ediv_nonneg (by omega) (by omega)
    have h2 : ((j : Int) + 1) ≤ (2 * m + w - 1) / (2 * w) ↔ ((j : Int) + 1) * (2 * w) ≤ 2 * m + w - 1 := Int.le_ediv_iff_mul_le (by omega)
    have h3 : ((j : Int) + 1) * (2 * w) = 2 * (w * j) + 2 * w := by
      rw [Int.add_mul, Int.one_mul, Int.mul_comm (j : Int), Int.mul_assoc]
    rw [h3] at h2
    constructor
    · intro q
      have : ((j : Int) + 1) ≤ (2 * m + w - 1) / (2 * w) := by omega
      have := h2.mp this
      omega
    · intro q
      have := h2.mpr (by omega)
      omega
theorem nI_ti {n : Nat} (h : n < 2 ^ 31) : (nI n).toInt = n := nI_toInt h
section
variable {w : Nat} {a e : Int32}
theorem rou_eq (hw : 4 ≤ w) (hw2 : w ≤ 60) (ha : -1000 ≤ a.toInt) (ha2 : a.toInt ≤ 1000) (he : -500000000 ≤ e.toInt) (he2 : e.toInt ≤ 500000000) : rouW (nI w) (e - a) = nI (rouK w (e.toInt - a.toInt)) := by
  have hm : (e - a).toInt = e.toInt - a.toInt := ti_sub (by omega) (by omega)
  have hwt : (nI w).toInt = w := nI_ti (by omega)
  unfold rouW rouK
  by_cases h0 : e.toInt - a.toInt ≤ 0
  · rw [if_pos (Or.inl (ti_le.mpr (by rw [hm]; exact h0))), if_pos h0]
    rfl
  · have hn1 : ¬ (e - a ≤ 0 ∨ nI w ≤ 0) := by
      rintro (q | q)
      · have := ti_le.mp q; rw [hm] at this; exact h0 this
      · have := ti_le.mp q; rw [hwt] at this; have e0 : (0 : Int32).toInt = 0 := rfl; omega
    rw [if_neg hn1, if_neg h0]
    have e2 : (2 : Int32).toInt = 2 := rfl
    have e1 : (1 : Int32).toInt = 1 := rfl
    have h2m : (2 * (e - a)).toInt = 2 * (e.toInt - a.toInt) := by rw [ti_mul (by rw [e2, hm]; omega) (by rw [e2, hm]; omega), e2, hm]
    have h2mw : (2 * (e - a) + nI w).toInt = 2 * (e.toInt - a.toInt) + w := by rw [ti_add (by rw [h2m, hwt]; omega) (by rw [h2m, hwt]; omega), h2m, hwt]
    have hnum : (2 * (e - a) + nI w - 1).toInt = 2 * (e.toInt - a.toInt) + w - 1 := by rw [ti_sub (by rw [h2mw, e1]; omega) (by rw [h2mw, e1]; omega), h2mw, e1]
    have hden : (2 * nI w).toInt = 2 * w := by rw [ti_mul (by rw [e2, hwt]; omega) (by rw [e2, hwt]; omega), e2, hwt]
    apply ti_inj
    rw [lg_idiv_nonneg (by rw [hnum]; omega) (by rw [hden]; omega), hnum, hden]
    have h1 : 0 ≤ (2 * (e.toInt - a.toInt) + w - 1) / (2 * w) := Int.ediv_nonneg (by omega) (by omega)
    have h9 : (2 * (e.toInt - a.toInt) + w - 1) / (2 * w) ≤ 2 * (e.toInt - a.toInt) + w - 1 := Int.ediv_le_self _ (by omega)
    rw [nI_ti (by omega), Int.toNat_of_nonneg h1]
theorem rou_went (hw : 4 ≤ w) (hw2 : w ≤ 60) (ha : -1000 ≤ a.toInt) (ha2 : a.toInt ≤ 1000) (he : -500000000 ≤ e.toInt) (he2 : e.toInt ≤ 500000000) {j : Nat} (hj : j ≤ rouK w (e.toInt - a.toInt)) : (a + nI w * nI j).toInt = a.toInt + w * j ∧ 0 ≤ (w : Int) * j ∧ (w : Int) * j ≤ 510000000 := by
  have hwt : (nI w).toInt = w := nI_ti (by omega)
  have hk := rouK_le hw (m := e.toInt - a.toInt) (by omega)
  have hmono : (w : Int) * j ≤ w * rouK w (e.toInt - a.toInt) := Int.mul_le_mul_of_nonneg_left (by omega) (by omega)
  have hkk : (rouK w (e.toInt - a.toInt) : Int) * (2 * w) = 2 * (w * rouK w (e.toInt - a.toInt)) := by
    rw [Int.mul_comm, Int.mul_assoc]
  rw [hkk] at hk
  have h0 : 0 ≤ (w : Int) * j := Int.mul_nonneg (by omega) (by omega)
  have hb : (w : Int) * j ≤ 510000000 := by
    split at hk <;> omega
  have hj4 : (j : Int) ≤ w * j := by
    have : (1 : Int) * j ≤ w * j := Int.mul_le_mul_of_nonneg_right (by omega) (by omega)
    omega
  have hjt : (nI j).toInt = j := nI_ti (by omega)
  have hm : (nI w * nI j).toInt = w * j := by rw [ti_mul (by rw [hwt, hjt]; omega) (by rw [hwt, hjt]; omega), hwt, hjt]
  exact ⟨by rw [ti_add (by rw [hm]; omega) (by rw [hm]; omega), hm], h0, hb⟩
theorem rou_step (hw : 4 ≤ w) (hw2 : w ≤ 60) (ha : -1000 ≤ a.toInt) (ha2 : a.toInt ≤ 1000) (he : -500000000 ≤ e.toInt) (he2 : e.toInt ≤ 500000000) {j : Nat} (hj : j ≤ rouK w (e.toInt - a.toInt)) : sizC (a + nI w * nI j + nI w - e) < sizC (a + nI w * nI j - e) ↔ j < rouK w (e.toInt - a.toInt) := by
  obtain ⟨h1, h2, h3⟩ := rou_went hw hw2 ha ha2 he he2 hj
  have hwt : (nI w).toInt = w := nI_ti (by omega)
  have hx : (a + nI w * nI j + nI w).toInt = a.toInt + w * j + w := by rw [ti_add (by rw [h1, hwt]; omega) (by rw [h1, hwt]; omega), h1, hwt]
  have hx2 : (a + nI w * nI j + nI w - e).toInt = a.toInt + w * j + w - e.toInt := by rw [ti_sub (by rw [hx]; omega) (by rw [hx]; omega), hx]
  have hx3 : (a + nI w * nI j - e).toInt = a.toInt + w * j - e.toInt := by rw [ti_sub (by rw [h1]; omega) (by rw [h1]; omega), h1]
  rw [ti_lt, siz_ti (by rw [hx2]; omega), siz_ti (by rw [hx3]; omega), hx2, hx3, rouK_lt hw j]
  generalize (w : Int) * j = P at h2 h3 ⊢
  split <;> split <;> omega
theorem rou_next (j : Nat) : a + nI w * nI j + nI w = a + nI w * nI (j + 1) := by
  rw [← nI_1, Int32.mul_add, Int32.mul_one, Int32.add_assoc]
end
/-! a telling comes to the village, as the model has it -/
def telE (σ : Nat → Int32) (i : Nat) (c : Int32) : Int32 := (c - σ (17 * i + 12)) * σ (17 * i + 0) / σ (17 * 0 + 0) / σ (17 * i + 1)
def tel2 (σ : Nat → Int32) (i : Nat) (x : Int32) : Int32 := if x - σ (17 * i + 10) < 0 then x - σ (17 * i + 10) + σ 102 else x - σ (17 * i + 10) + 0
def tel3 (σ : Nat → Int32) (i : Nat) (x c : Int32) : Int32 := if σ 103 = 1 then tel2 σ i x + σ 102 * rouW (σ 102) (telE σ i c - tel2 σ i x) else tel2 σ i x
def telT (σ : Nat → Int32) (i : Nat) (x h t c : Int32) : Nat → Int32 :=
  let s1 := va_up σ (17 * i + 8) (σ (17 * i + 8) + tel3 σ i x c)
  let s2 := va_up s1 (17 * i + 13) (s1 (17 * i + 13) + 1)
  va_up (va_up (va_up (va_up s2 (17 * i + 9) h) (17 * i + 10) x) (17 * i + 11) t) (17 * i + 12) c
def telC (σ : Nat → Int32) (i : Nat) (x h t c : Int32) : Nat → Int32 :=
  if h < σ (17 * i + 9) then va_up σ (17 * i + 14) (σ (17 * i + 14) + 1)
  else if h = σ (17 * i + 9) ∧ x = σ (17 * i + 10) ∧ 0 < σ (17 * i + 13) then va_up σ (17 * i + 15) (σ (17 * i + 15) + 1)
  else telT σ i x h t c
