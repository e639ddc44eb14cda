/-! numbers; a gauge's row through an hour, a telling -/
theorem bm_eq {x : Int} (h1 : -2147483648 ≤ x) (h2 : x < 2147483648) : x.bmod (2 ^ 32) = x := by
  simp only [Int.bmod]
  split <;> omega
theorem ti_add {x y : Int32} (h1 : -2147483648 ≤ x.toInt + y.toInt) (h2 : x.toInt + y.toInt < 2147483648) : (x + y).toInt = x.toInt + y.toInt := by rw [Int32.toInt_add]; exact bm_eq h1 h2
theorem ti_sub {x y : Int32} (h1 : -2147483648 ≤ x.toInt - y.toInt) (h2 : x.toInt - y.toInt < 2147483648) : (x - y).toInt = x.toInt - y.toInt := by rw [Int32.toInt_sub]; exact bm_eq h1 h2
theorem ti_mul {x y : Int32} (h1 : -2147483648 ≤ x.toInt * y.toInt) (h2 : x.toInt * y.toInt < 2147483648) : (x * y).toInt = x.toInt * y.toInt := by rw [Int32.toInt_mul]; exact bm_eq h1 h2
theorem ti_le {x y : Int32} : x ≤ y ↔ x.toInt ≤ y.toInt := Int32.le_iff_toInt_le
theorem ti_lt {x y : Int32} : x < y ↔ x.toInt < y.toInt := Int32.lt_iff_toInt_lt
theorem ti_inj {x y : Int32} (h : x.toInt = y.toInt) : x = y := Int32.toInt_inj.mp h
theorem nI_ti {n : Nat} (h : n < 2 ^ 31) : (nI n).toInt = n := nI_toInt h
theorem ti_0 : (0 : Int32).toInt = 0 := rfl
theorem ti_1 : (1 : Int32).toInt = 1 := rfl
theorem ti_pos {x : Int32} (h : 1 ≤ x.toInt) : 0 < x := ti_lt.mpr (by rw [ti_0]; omega)
theorem ti_npos {x : Int32} (h : 1 ≤ x.toInt) : ¬ x ≤ 0 := Int32.not_le.mpr (ti_pos h)
theorem ti_nn {x : Int32} (h : 0 ≤ x.toInt) : 0 ≤ x := ti_le.mpr (by rw [ti_0]; exact h)
theorem div_ti {x y : Int32} (hy : 1 ≤ y.toInt) : (x / y).toInt = x.toInt.tdiv y.toInt := Int32.toInt_div_of_ne_right x y (fun q => by rw [q] at hy; exact absurd hy (by decide))
theorem div_bd {x y : Int32} (hy : 1 ≤ y.toInt) {B : Int} (h1 : -B ≤ x.toInt) (h2 : x.toInt ≤ B) : -B ≤ (x / y).toInt ∧ (x / y).toInt ≤ B := by
  rw [div_ti hy]
  have := Int.natAbs_tdiv_le_natAbs x.toInt y.toInt
  omega
theorem up2_s {f : Nat → Nat → Int32} {i k : Nat} {x : Int32} : up2 f i k x i k = x := by
  unfold up2
  rw [va_up_self, va_up_self]
theorem up2_k {f : Nat → Nat → Int32} {i k k' : Nat} {x : Int32} (h : k' ≠ k) : up2 f i k x i k' = f i k' := by
  unfold up2
  rw [va_up_self, va_up_ne _ _ h]
theorem up2_i {f : Nat → Nat → Int32} {i k i' : Nat} {x : Int32} (h : i' ≠ i) : up2 f i k x i' = f i' := by
  unfold up2
  rw [va_up_ne _ _ h]
theorem vv_up {α : Type} (f : Nat → α) (i : Nat) (a b : α) : va_up (va_up f i a) i b = va_up f i b := by
  funext j
  unfold va_up
  by_cases h : j = i
  · rw [if_pos h, if_pos h]
  · rw [if_neg h, if_neg h, if_neg h]
theorem rot_lo {α : Type} {k n r : Nat} (f : Nat → α) (hr : r + 1 < n) : rotN k n f r = f (if r < k then r else r + 1) := by
  unfold rotN
  rw [if_neg (by omega)]
  by_cases h : r < k
  · rw [if_neg (by omega), if_pos h]
  · rw [if_pos (by omega), if_neg h]
/-! an hour of rain in a gauge's row -/
def felR (r : Nat → Int32) (a : Int32) : Int32 := a * r 0 * r 2 / 100
def tipR (r : Nat → Int32) (a : Int32) : Int32 := if 0 < r 1 then (r 4 + felR r a) / r 1 else 0
def catR (r : Nat → Int32) (a : Int32) : Nat → Int32 := fun k => if k = 4 then r 4 + felR r a - tipR r a * r 1 else if k = 5 then r 5 + tipR r a else if k = 6 then r 6 + felR r a else if k = 7 then r 7 + tipR r a * r 1 else r k
theorem catR_4 (r : Nat → Int32) (a : Int32) : catR r a 4 = r 4 + felR r a - tipR r a * r 1 := rfl
theorem catR_5 (r : Nat → Int32) (a : Int32) : catR r a 5 = r 5 + tipR r a := rfl
theorem catR_6 (r : Nat → Int32) (a : Int32) : catR r a 6 = r 6 + felR r a := rfl
theorem catR_7 (r : Nat → Int32) (a : Int32) : catR r a 7 = r 7 + tipR r a * r 1 := rfl
theorem catR_o (r : Nat → Int32) (a : Int32) {k : Nat} (h : k < 4 ∨ 8 ≤ k) : catR r a k = r k := by
  unfold catR
  rw [if_neg (by omega), if_neg (by omega), if_neg (by omega), if_neg (by omega)]
theorem cat_eq (v : VV) (i : Nat) (a : Int32) : catC v i a = (v.1, va_up v.2.1 i (catR (v.2.1 i) a), v.2.2) := by
  refine Prod.ext rfl (Prod.ext ?_ rfl)
  show (catT v i (felR (v.2.1 i) a) (tipR (v.2.1 i) a)).2.1 = va_up v.2.1 i (catR (v.2.1 i) a)
  unfold catT
  simp only [up2, vv_up, va_up_self]
  congr 1
  funext k
  rcases (by omega : k = 4 ∨ k = 5 ∨ k = 6 ∨ k = 7 ∨ (k < 4 ∨ 8 ≤ k)) with rfl | rfl | rfl | rfl | h
  · rw [catR_4]; simp [va_up]
  · rw [catR_5]; simp [va_up]
  · rw [catR_6]; simp [va_up]
  · rw [catR_7]; simp [va_up]
  · rw [catR_o _ _ h, va_up_ne _ _ (by omega), va_up_ne _ _ (by omega), va_up_ne _ _ (by omega), va_up_ne _ _ (by omega)]
theorem tip_eq (v : VV) (i : Nat) (a : Int32) : tipC v i a = tipR (v.2.1 i) a := rfl
/-! a telling in a gauge's row -/
def whI (w t : Int32) : Int32 := if 0 < w then t - t / w * w else 0
theorem wh_eq (v : VV) (t : Int32) : whC v t = whI (v.1 0) t := rfl
def expR (vm : Int32) (r : Nat → Int32) (c : Int32) : Int32 := if vm ≤ 0 ∨ r 1 ≤ 0 then 0 else (c - r 11) * r 0 / vm / r 1
def rouR (w m : Int32) : Int32 := if m ≤ 0 ∨ w ≤ 0 then 0 else (2 * m + w - 1) / (2 * w)
def we2R (w : Int32) (r : Nat → Int32) (t : Int32) : Int32 := if whI w t - whI w (r 10) < 0 then whI w t - whI w (r 10) + w else whI w t - whI w (r 10)
def wenR (w g vm : Int32) (r : Nat → Int32) (t c : Int32) : Int32 := if g = 1 then we2R w r t + w * rouR w (expR vm r c - we2R w r t) else we2R w r t
def takR (w g vm : Int32) (r : Nat → Int32) (t hh c : Int32) : Nat → Int32 := va_up (va_up (va_up (va_up (va_up r 8 (r 8 + wenR w g vm r t c)) 12 (r 12 + 1)) 9 hh) 10 t) 11 c
def heaR (w g vm : Int32) (r : Nat → Int32) (t hh c : Int32) : Nat → Int32 :=
  if hh < r 9 then va_up r 13 (r 13 + 1) else if 0 < r 12 ∧ hh = r 9 ∧ whI w t = whI w (r 10) then va_up r 14 (r 14 + 1) else takR w g vm r t hh c
theorem takR_8 {w g vm : Int32} {r : Nat → Int32} {t hh c : Int32} : takR w g vm r t hh c 8 = r 8 + wenR w g vm r t c := by simp [takR, va_up]
theorem takR_9 {w g vm : Int32} {r : Nat → Int32} {t hh c : Int32} : takR w g vm r t hh c 9 = hh := by simp [takR, va_up]
theorem takR_10 {w g vm : Int32} {r : Nat → Int32} {t hh c : Int32} : takR w g vm r t hh c 10 = t := by simp [takR, va_up]
theorem takR_11 {w g vm : Int32} {r : Nat → Int32} {t hh c : Int32} : takR w g vm r t hh c 11 = c := by simp [takR, va_up]
theorem takR_12 {w g vm : Int32} {r : Nat → Int32} {t hh c : Int32} : takR w g vm r t hh c 12 = r 12 + 1 := by simp [takR, va_up]
theorem takR_o {w g vm : Int32} {r : Nat → Int32} {t hh c : Int32} {k : Nat} (h : k < 8 ∨ 13 ≤ k) : takR w g vm r t hh c k = r k := by
  unfold takR
  rw [va_up_ne _ _ (by omega), va_up_ne _ _ (by omega), va_up_ne _ _ (by omega), va_up_ne _ _ (by omega), va_up_ne _ _ (by omega)]
theorem heaR_o {w g vm : Int32} {r : Nat → Int32} {t hh c : Int32} {k : Nat} (h : k < 8) : heaR w g vm r t hh c k = r k := by
  unfold heaR
  split
  · exact va_up_ne _ _ (by omega)
  · split
    · exact va_up_ne _ _ (by omega)
    · exact takR_o (Or.inl h)
theorem tak_eq (v : VV) (i j : Nat) : takC v i j = (v.1, va_up v.2.1 i (takR (v.1 0) (v.1 1) (v.2.1 0 0) (v.2.1 i) (v.2.2 j 1) (v.2.2 j 2) (v.2.2 j 3)), v.2.2) := by
  unfold takC
  refine Prod.ext rfl (Prod.ext ?_ rfl)
  simp only [up2, vv_up, va_up_self]
  unfold takR
  rw [va_up_ne _ _ (show (12 : Nat) ≠ 8 by decide)]
  rfl
theorem hea_eq {v : VV} {j i : Nat} (e : gxn 6 (v.2.2 j 0) = some i) : heaC v j = (v.1, va_up v.2.1 i (heaR (v.1 0) (v.1 1) (v.2.1 0 0) (v.2.1 i) (v.2.2 j 1) (v.2.2 j 2) (v.2.2 j 3)), v.2.2) := by
  unfold heaC
  rw [e]
  show heaT v i j = _
  unfold heaT heaR
  by_cases h1 : v.2.2 j 2 < v.2.1 i 9
  · rw [if_pos h1, if_pos h1]; rfl
  · rw [if_neg h1, if_neg h1]
    rw [wh_eq, wh_eq]
    by_cases h2 : 0 < v.2.1 i 12 ∧ v.2.2 j 2 = v.2.1 i 9 ∧ whI (v.1 0) (v.2.2 j 1) = whI (v.1 0) (v.2.1 i 10)
    · rw [if_pos h2, if_pos h2]; rfl
    · rw [if_neg h2, if_neg h2]
      exact tak_eq v i j
/-! two rows that agree -/
def RowE (r q : Nat → Int32) : Prop := ∀ k, k < 16 → r k = q k
theorem RowE.rf {r : Nat → Int32} : RowE r r := fun _ _ => rfl
theorem RowE.up {r q : Nat → Int32} (h : RowE r q) (k : Nat) (x : Int32) : RowE (va_up r k x) (va_up q k x) := by
  intro j hj
  unfold va_up
  by_cases e : j = k
  · rw [if_pos e, if_pos e]
  · rw [if_neg e, if_neg e]; exact h j hj
theorem RowE.fel {r q : Nat → Int32} (h : RowE r q) (a : Int32) : felR r a = felR q a := by
  unfold felR
  rw [h 0 (by omega), h 2 (by omega)]
theorem RowE.tip {r q : Nat → Int32} (h : RowE r q) (a : Int32) : tipR r a = tipR q a := by
  unfold tipR
  rw [h.fel a, h 1 (by omega), h 4 (by omega)]
theorem RowE.cat {r q : Nat → Int32} (h : RowE r q) (a : Int32) : RowE (catR r a) (catR q a) := by
  intro k hk
  unfold catR
  rw [h.fel a, h.tip a, h 1 (by omega), h 4 (by omega), h 5 (by omega), h 6 (by omega), h 7 (by omega), h k hk]
theorem RowE.wen {r q : Nat → Int32} (h : RowE r q) (w g vm t c : Int32) : wenR w g vm r t c = wenR w g vm q t c := by
  unfold wenR expR we2R
  rw [h 0 (by omega), h 1 (by omega), h 10 (by omega), h 11 (by omega)]
theorem RowE.hea {r q : Nat → Int32} (h : RowE r q) (w g vm t hh c : Int32) : RowE (heaR w g vm r t hh c) (heaR w g vm q t hh c) := by
  unfold heaR
  rw [h 9 (by omega), h 12 (by omega), h 10 (by omega), h 13 (by omega), h 14 (by omega)]
  by_cases h1 : hh < q 9
  · rw [if_pos h1, if_pos h1]; exact h.up 13 _
  · rw [if_neg h1, if_neg h1]
    by_cases h2 : 0 < q 12 ∧ hh = q 9 ∧ whI w t = whI w (q 10)
    · rw [if_pos h2, if_pos h2]; exact h.up 14 _
    · rw [if_neg h2, if_neg h2]
      unfold takR
      rw [h.wen w g vm t c, h 8 (by omega), h 12 (by omega)]
      exact ((((h.up 8 _).up 12 _).up 9 _).up 10 _).up 11 _
