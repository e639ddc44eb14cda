/-! set, copies, the history, the whole state -/
theorem cosL_22 (v : VV) (k : Nat) : (cosL v k).2.2 = v.2.2 := by
  induction k with
  | zero => rfl
  | succ k ih => exact (cosC_2 _ _).trans ih
theorem los_gf {v : VV} {n : Nat} : ∀ (u k : Nat) (τ : Nat → Int32), k + u = n → u ≤ 20 → GF (cosL v k) τ → τ 105 = nI u → (∀ r, r < u → ∃ i, i < 6 ∧ v.2.2 (k + r) 0 = nI i ∧ τ (106 + 6 * r) = nI i) → GF (cosL v n) (losM u τ) ∧ (∀ q, q < 105 → (∀ i, i < 6 → q ≠ 17 * i + 16) → losM u τ q = τ q) ∧ losM u τ 105 = nI 0 := by
  intro u
  induction u with
  | zero =>
    intro k τ hk _ G h5 _
    obtain rfl : k = n := by omega
    exact ⟨G, fun _ _ _ => rfl, h5⟩
  | succ u ih =>
    intro k τ hk hu G h5 hr
    obtain ⟨i, hi, e1, e2⟩ := hr 0 (by omega)
    have eL : losM (u + 1) τ = losM u (drM 0 (u + 1) (va_up τ (17 * i + 16) (τ (17 * i + 16) + 1))) := (los_1 e2 (by omega)).symm
    have eC : cosL v (k + 1) = vG (cosL v k) i 15 ((cosL v k).2.1 i 15 + 1) := by
      show cosC (cosL v k) k = _
      unfold cosC
      rw [cosL_22, show v.2.2 k 0 = nI i from e1, gxn_in hi (by decide)]
    have G1 : GF (cosL v (k + 1)) (va_up τ (17 * i + 16) (τ (17 * i + 16) + 1)) := by
      rw [eC]
      exact G.up hi (k := 15) (by omega) rfl (congrArg (· + 1) (G i hi 15 (by omega)))
    have G2 : GF (cosL v (k + 1)) (drM 0 (u + 1) (va_up τ (17 * i + 16) (τ (17 * i + 16) + 1))) := fun j hj q hq => by
      have := gm_le hq
      rw [drM_o (by omega)]
      exact G1 j hj q hq
    obtain ⟨r1, r2, r3⟩ := ih (k + 1) _ (by omega) (by omega) G2 drM_105 (fun r hru => by
      obtain ⟨i', hi', z1, z2⟩ := hr (r + 1) (by omega)
      refine ⟨i', hi', by rw [show k + 1 + r = k + (r + 1) by omega]; exact z1, ?_⟩
      have := drM_row (k := 0) (n := u + 1) (σ := va_up τ (17 * i + 16) (τ (17 * i + 16) + 1)) (r := r) (j := 0) (by omega) (by omega)
      rw [if_neg (by omega)] at this
      exact this.trans ((va_up_ne _ _ (by omega)).trans z2))
    rw [eL]
    refine ⟨r1, fun q hq hq2 => ?_, r3⟩
    rw [r2 q hq hq2, drM_o hq, va_up_ne _ _ (hq2 i hi)]
theorem whl_o {y : Int32} {τ : Nat → Int32} {q z : Nat} (h : ∀ j, j < q → z ≠ 17 * j + 10) : whlM y τ q z = τ z := by
  induction q with
  | zero => rfl
  | succ q ih => exact (va_up_ne _ _ (h q (by omega))).trans (ih (fun j hj => h j (by omega)))
theorem whl_n {y : Int32} {τ : Nat → Int32} : ∀ q, ∀ j, j < q → whlM y τ q (17 * j + 10) = τ (17 * j + 11) - τ (17 * j + 11) / y * y := by
  intro q
  induction q with
  | zero => intro j hj; exact absurd hj (Nat.not_lt_zero j)
  | succ q ih =>
    intro j hj
    show va_up _ _ _ _ = _
    by_cases e : j = q
    · rw [e, va_up_self, whl_o (fun j hj => by omega)]
    · rw [va_up_ne _ _ (by omega)]
      exact ih j (by omega)
theorem Rel.setw {B : Nat} {v : VV} {σ : Nat → Int32} {n h : Nat} (R : Rel B v σ n h) {y : Int32} (hy : ¬ winC y (nI 4) (nI 60) = 0) : Rel B (chgC v n y) (setM n σ y) 0 h := by
  obtain ⟨G, T, hn20, hv, hs, h4, hb, hr⟩ := R
  obtain ⟨⟨w0, w1, w2, w3⟩, -⟩ := T.set_w hy
  rw [va_up_self] at w3
  obtain ⟨r1, r2, r3⟩ := los_gf (v := v) (n := n) n 0 (va_up σ 102 y) (by omega) hn20 (G.2.2.2.1.o (Or.inl (by omega)) y) ((va_up_ne _ _ (by omega)).trans hs) (fun r hrn => by
    obtain ⟨i, hi, ei⟩ := T.2.2.2.2.2.1 r hrn
    exact ⟨i, hi, by rw [Nat.zero_add]; exact (hr r hrn).1.1.trans ei, (va_up_ne _ _ (by omega)).trans ei⟩)
  have o : ∀ q, q < 105 → q ≠ 102 → (∀ i, i < 6 → q ≠ 17 * i + 16 ∧ q ≠ 17 * i + 10) → setM n σ y q = σ q := fun q h1 h2 h3 =>
    (whl_o (fun j hj => (h3 j hj).2)).trans ((r2 q h1 (fun i hi => (h3 i hi).1)).trans (va_up_ne _ _ h2))
  have e102 : setM n σ y 102 = y := (whl_o (fun j hj => by omega)).trans ((r2 102 (by omega) (fun i hi => by omega)).trans (va_up_self _ _ _))
  have e10 : ∀ i, i < 6 → setM n σ y (17 * i + 10) = setM n σ y (17 * i + 11) - setM n σ y (17 * i + 11) / y * y := fun i hi => by
    rw [show setM n σ y (17 * i + 11) = losM n (va_up σ 102 y) (17 * i + 11) from whl_o (fun j hj => by omega)]
    exact whl_n 6 i hi
  obtain ⟨g0, g1, g2, hG, hW⟩ := G
  refine ⟨⟨(va_up_self (va_up (cosL v n).1 3 (nI 0)) 0 y).trans e102.symm, ?_, ?_, fun i hi k hk => ?_, fun i hi => ?_⟩, ⟨⟨w0, w1, w2, e102.trans w3⟩, fun i hi => ?_, fun i hi => ?_, fun i hi => ?_, fun i hi => ?_, fun r hr => absurd hr (Nat.not_lt_zero r), fun r hr => absurd hr (Nat.not_lt_zero r), fun r hr => absurd hr (Nat.not_lt_zero r)⟩, by omega, ?_, (whl_o (fun j hj => by omega)).trans r3, (o _ (by omega) (by omega) (fun i hi => by omega)).trans h4, hb.cg (o _ (by omega) (by omega) (fun i hi => by omega)) (o _ (by omega) (by omega) (fun i hi => by omega)) (fun j hj => o _ (by omega) (by omega) (fun i hi => by omega)), fun r hr => absurd hr (Nat.not_lt_zero r)⟩
  · rw [o 103 (by omega) (by omega) (fun i hi => by omega), ← g1, ← cosL_1 v n]
    exact (va_up_ne (k := 0) (j := 1) (va_up (cosL v n).1 3 (nI 0)) y (by decide)).trans (va_up_ne (k := 3) (j := 1) (cosL v n).1 (nI 0) (by decide))
  · rw [o 104 (by omega) (by omega) (fun i hi => by omega), ← g2, ← cosL_1 v n]
    exact (va_up_ne (k := 0) (j := 2) (va_up (cosL v n).1 3 (nI 0)) y (by decide)).trans (va_up_ne (k := 3) (j := 2) (cosL v n).1 (nI 0) (by decide))
  · have h1 := gm_le hk
    have h2 := gm_10 k
    rw [show setM n σ y (17 * i + gm k) = losM n (va_up σ 102 y) (17 * i + gm k) from whl_o (fun j hj => by omega)]
    exact r1 i hi k hk
  · unfold remW
    rw [e102]
    exact e10 i hi
  · rw [o _ (by omega) (by omega) (fun j hj => by omega)]; exact T.2.1 i hi
  · rw [o _ (by omega) (by omega) (fun j hj => by omega)]; exact T.2.2.1 i hi
  · rw [e10 i hi]
    exact irm_bd (by omega) w2 w3
  · rw [o _ (by omega) (by omega) (fun j hj => by omega)]; exact T.2.2.2.2.1 i hi
  · exact (va_up_ne (k := 0) (j := 3) (va_up (cosL v n).1 3 (nI 0)) y (by decide)).trans (va_up_self _ _ _)
theorem Rel.cg {B : Nat} {v : VV} {σ τ : Nat → Int32} {n h : Nat} (R : Rel B v σ n h) (e : ∀ q, q < 226 → τ q = σ q) : Rel B v τ n h := by
  obtain ⟨G, T, hn20, hv, hs, h4, hb, hr⟩ := R
  exact ⟨G.lo rfl rfl rfl rfl (fun q hq => e q (by omega)), T.cg (e _ (by omega)) (fun i hi => e _ (by omega)) (fun i hi => e _ (by omega)) (fun i hi => e _ (by omega)) (fun i hi => e _ (by omega)) (fun r hrn => ⟨r, hrn, fun j hj => e _ (by omega)⟩), hn20, hv, (e _ (by omega)).trans hs, (e _ (by omega)).trans h4, hb.lo (fun q hq => e q (by omega)), fun r hrn => ⟨(hr r hrn).1.row rfl (fun j hj => e _ (by omega)) (e _ (by omega)), (hr r hrn).2.row rfl (e _ (by omega))⟩⟩
theorem Rel.cpy {B : Nat} {v : VV} {σ : Nat → Int32} {n h : Nat} (R : Rel B v σ n h) (t : VV) : Rel B (cpyC t v n) σ n h := by
  obtain ⟨⟨g0, g1, g2, hG, hW⟩, T, hn20, hv, hs, h4, hb, hr⟩ := R
  have row : ∀ r, r < n → ∀ k, k < 5 → (cpyC t v n).2.2 r k = v.2.2 r k := fun r hrn k hk => by
    show mixN cpR n t.2.2 v.2.2 r k = _
    unfold mixN
    rw [if_pos hrn]
    exact if_pos hk
  refine ⟨⟨g0, g1, g2, fun i hi k hk => ?_, hW⟩, T, hn20, hv, hs, h4, hb, fun r hrn => ?_⟩
  · show mixN cpG 6 t.2.1 v.2.1 i k = _
    unfold mixN
    rw [if_pos hi]
    exact (if_pos hk).trans (hG i hi k hk)
  · obtain ⟨F, d, d1, d2, d3, d4⟩ := hr r hrn
    exact ⟨F.row4 (fun k hk => row r hrn k (by omega)), d, d1, d2, (row r hrn 4 (by omega)).trans d3, d4⟩
/-- a row of a long row -/
def rwM (f : Nat → Int32) (j : Nat) : Nat → Int32 := fun z => f (226 * j + z)
theorem wrN_in {j q : Nat} {f σ : Nat → Int32} (hq : q < 226) : wrN j 226 f σ (226 * j + q) = σ q := by
  unfold wrN
  rw [if_pos (by omega), show 226 * j + q - 226 * j = q by omega]
theorem wrN_out {j i q : Nat} {f σ : Nat → Int32} (hq : q < 226) (h : i ≠ j) : wrN j 226 f σ (226 * i + q) = f (226 * i + q) := by
  unfold wrN
  rw [if_neg (by omega)]
def HistR (B k : Nat) (hs : Nat → VV) (f : Nat → Int32) : Prop := ∀ j, j < k → ∃ n h, Rel B (hs j) (rwM f j) n h ∧ h ≤ 9999
theorem HistR.rec {B k : Nat} {hs : Nat → VV} {f : Nat → Int32} (H : HistR B k hs f) (hk : k ≤ 6) {w : VV} {σ : Nat → Int32} {n h : Nat} (R : Rel B w σ n h) (hh : h ≤ 9999) : HistR B (recK k) (recV k hs w n) (savB k f σ) := by
  intro j hj
  unfold recK at hj
  unfold recV savB
  by_cases h6 : k = 6
  · rw [if_pos h6] at hj
    rw [if_pos h6, if_pos h6, if_pos h6]
    by_cases h5 : j = 5
    · rw [h5, va_up_self]
      exact ⟨n, h, (R.cpy _).cg (fun q hq => wrN_in hq), hh⟩
    · rw [va_up_ne _ _ h5, rot_lo _ (by omega), if_neg (by omega)]
      obtain ⟨n', h', R', hh'⟩ := H (j + 1) (by omega)
      refine ⟨n', h', R'.cg (fun q hq => ?_), hh'⟩
      show wrN 5 226 (shN 1130 f) σ (226 * j + q) = f (226 * (j + 1) + q)
      rw [wrN_out hq h5]
      unfold shN
      rw [if_pos (by omega)]
      congr 1
      omega
  · rw [if_neg h6] at hj
    rw [if_neg h6, if_neg h6, if_neg h6]
    by_cases hjk : j = k
    · rw [hjk, va_up_self]
      exact ⟨n, h, (R.cpy _).cg (fun q hq => wrN_in hq), hh⟩
    · rw [va_up_ne _ _ hjk]
      obtain ⟨n', h', R', hh'⟩ := H j (by omega)
      exact ⟨n', h', R'.cg (fun q hq => wrN_out hq hjk), hh'⟩
theorem HistR.mono {B C k : Nat} {hs : Nat → VV} {f : Nat → Int32} (H : HistR B k hs f) (hB : B ≤ C) : HistR C k hs f := fun j hj => by
  obtain ⟨n, h, R, hh⟩ := H j hj
  exact ⟨n, h, R.mono hB, hh⟩
/-- the class's state beside the model's -/
def RelS (B : Nat) (c : CS) (σ : Nat → Int32) (ar : Nat → Nat → Int32) (k L : Nat) : Prop :=
  CI c ∧ c.2.2.1 = k ∧ c.2.2.2.2.2.2 = L ∧ c.2.2.2.2.2.1 = ar 5 ∧ (∃ n h, Rel B c.1 σ n h ∧ h ≤ 9999) ∧ HistR B k c.2.1 (ar 2) ∧ (∀ i, i < 2 → c.2.2.2.2.1 i = ar 4 i) ∧ ∀ i, i < 2 → ¬ ar 4 i = 0 → ∃ n h, Rel B (c.2.2.2.1 i) (rwM (ar 3) i) n h ∧ h ≤ 9999
theorem RelS.mono {B C : Nat} {c : CS} {σ : Nat → Int32} {ar : Nat → Nat → Int32} {k L : Nat} (R : RelS B c σ ar k L) (hB : B ≤ C) : RelS C c σ ar k L := by
  obtain ⟨h1, h2, h3, h4, ⟨n, h, h5, h6⟩, h7, h8, h9⟩ := R
  refine ⟨h1, h2, h3, h4, ⟨n, h, h5.mono hB, h6⟩, h7.mono hB, h8, fun i hi hz => ?_⟩
  obtain ⟨n', h', R', hh'⟩ := h9 i hi hz
  exact ⟨n', h', R'.mono hB, hh'⟩
theorem Rel.on {B : Nat} {v : VV} {σ : Nat → Int32} {n h : Nat} (R : Rel B v σ n h) : OnW v := ⟨n, R.2.2.1, R.2.2.2.1⟩
theorem Rel.onN {B : Nat} {v : VV} {σ : Nat → Int32} {n h : Nat} (R : Rel B v σ n h) : onN v = n := onN_eq R.2.2.2.1 R.2.2.1
theorem RelS.rec {B C : Nat} {c : CS} {σ σ1 : Nat → Int32} {ar : Nat → Nat → Int32} {k L : Nat} (R : RelS B c σ ar k L) (hB : B ≤ C) {v1 : VV} {n1 h1 : Nat} (R1 : Rel C v1 σ1 n1 h1) (hh1 : h1 ≤ 9999) : RelS C (recX c v1) σ1 (va_up ar 2 (savB k (ar 2) σ)) (recK k) L := by
  obtain ⟨⟨i1, i2, i3, i4, i5⟩, h2, h3, h4, ⟨n, h, h5, h6⟩, h7, h8, h9⟩ := R.mono hB
  have e4 : (va_up ar 2 (savB k (ar 2) σ)) 4 = ar 4 := va_up_ne _ _ (by decide)
  have e3 : (va_up ar 2 (savB k (ar 2) σ)) 3 = ar 3 := va_up_ne _ _ (by decide)
  have e5 : (va_up ar 2 (savB k (ar 2) σ)) 5 = ar 5 := va_up_ne _ _ (by decide)
  refine ⟨⟨R1.on, recK_le i2, recV_on i3 i1 i2, i4, i5⟩, ?_, h3, by rw [e5]; exact h4, ⟨n1, h1, R1, hh1⟩, ?_, by rw [e4]; exact h8, by rw [e4, e3]; exact h9⟩
  · show recK c.2.2.1 = recK k
    rw [h2]
  · rw [va_up_self]
    show HistR C (recK k) (recV c.2.2.1 c.2.1 c.1 (onN c.1)) _
    rw [h2, h5.onN]
    exact h7.rec (by rw [← h2]; exact i2) h5 h6
