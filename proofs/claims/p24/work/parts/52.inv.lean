/-! what holds of a gauge, of its page, of a runner, of a valley -/
def zGA (h : Nat) (r : Nat → Int32) : Prop := (1 ≤ (r 0).toInt ∧ (r 0).toInt ≤ 9) ∧ (1 ≤ (r 1).toInt ∧ (r 1).toInt ≤ 50) ∧ (0 ≤ (r 2).toInt ∧ (r 2).toInt ≤ 200) ∧ (∃ w, w ≤ 9 ∧ r 3 = nI w) ∧ 0 ≤ (r 4).toInt ∧ 0 ≤ (r 5).toInt ∧ (r 5).toInt ≤ (r 7).toInt ∧ (r 4).toInt + (r 7).toInt = (r 6).toInt ∧ (r 6).toInt ≤ 1782 * (h : Int)
def zPA (T h : Nat) (r : Nat → Int32) : Prop := (∃ q, q ≤ h ∧ r 9 = nI q) ∧ (0 ≤ (r 10).toInt ∧ (r 10).toInt ≤ 1782 * (h : Int)) ∧ (0 ≤ (r 11).toInt ∧ (r 11).toInt ≤ 1782 * (h : Int)) ∧ (0 ≤ (r 12).toInt ∧ (r 12).toInt ≤ (T : Int)) ∧ ((r 12).toInt = 0 → r 8 = 0 ∧ r 9 = 0)
def zRA (B h : Nat) (q : Nat → Int32) : Prop := (∃ i, i < 6 ∧ q 0 = nI i) ∧ (0 ≤ (q 1).toInt ∧ (q 1).toInt ≤ 1782 * (h : Int)) ∧ (∃ z, z ≤ h ∧ q 2 = nI z) ∧ (0 ≤ (q 3).toInt ∧ (q 3).toInt ≤ 1782 * (h : Int)) ∧ ∃ d, 1 ≤ d ∧ d ≤ B ∧ q 4 = nI d
def zPI (B T : Nat) (v : VV) (n h : Nat) : Prop := n ≤ 20 ∧ v.1 3 = nI n ∧ (∃ w, 4 ≤ w ∧ w ≤ 60 ∧ v.1 0 = nI w) ∧ v.1 2 = nI h ∧ (∀ i, i < 6 → zGA h (v.2.1 i) ∧ zPA T h (v.2.1 i)) ∧ ∀ j, j < n → zRA B h (v.2.2 j)
theorem zGA.cg {h : Nat} {r q : Nat → Int32} (G : zGA h r) (e : ∀ k, k < 8 → q k = r k) : zGA h q := by
  unfold zGA
  rw [e 0 (by omega), e 1 (by omega), e 2 (by omega), e 3 (by omega), e 4 (by omega), e 5 (by omega), e 6 (by omega), e 7 (by omega)]
  exact G
theorem zPA.cg {T h : Nat} {r q : Nat → Int32} (G : zPA T h r) (e : ∀ k, 8 ≤ k → k < 13 → q k = r k) : zPA T h q := by
  unfold zPA
  rw [e 8 (by omega) (by omega), e 9 (by omega) (by omega), e 10 (by omega) (by omega), e 11 (by omega) (by omega), e 12 (by omega) (by omega)]
  exact G
theorem zRA.cg {B h : Nat} {r q : Nat → Int32} (G : zRA B h r) (e : ∀ k, k < 5 → q k = r k) : zRA B h q := by
  unfold zRA
  rw [e 0 (by omega), e 1 (by omega), e 2 (by omega), e 3 (by omega), e 4 (by omega)]
  exact G
theorem zPA.mono {T T' h h' : Nat} {r : Nat → Int32} (G : zPA T h r) (hT : T ≤ T') (hh : h ≤ h') : zPA T' h' r := by
  obtain ⟨⟨q, q1, q2⟩, ⟨a1, a2⟩, ⟨b1, b2⟩, ⟨c1, c2⟩, d⟩ := G
  exact ⟨⟨q, by omega, q2⟩, ⟨a1, by omega⟩, ⟨b1, by omega⟩, ⟨c1, by omega⟩, d⟩
theorem zRA.mono {B B' h h' : Nat} {r : Nat → Int32} (G : zRA B h r) (hB : B ≤ B') (hh : h ≤ h') : zRA B' h' r := by
  obtain ⟨a, ⟨b1, b2⟩, ⟨z, z1, z2⟩, ⟨c1, c2⟩, ⟨d, d1, d2, d3⟩⟩ := G
  exact ⟨a, ⟨b1, by omega⟩, ⟨z, by omega, z2⟩, ⟨c1, by omega⟩, ⟨d, d1, by omega, d3⟩⟩
theorem zPI.mono {B B' T T' n h : Nat} {v : VV} (P : zPI B T v n h) (hB : B ≤ B') (hT : T ≤ T') : zPI B' T' v n h := by
  obtain ⟨h1, h2, h3, h4, h5, h6⟩ := P
  exact ⟨h1, h2, h3, h4, fun i hi => ⟨(h5 i hi).1, (h5 i hi).2.mono hT (Nat.le_refl _)⟩, fun j hj => (h6 j hj).mono hB (Nat.le_refl _)⟩
theorem zPI.cg {B T n h : Nat} {v w : VV} (P : zPI B T v n h) (e : Eq2 w v n) : zPI B T w n h := by
  obtain ⟨h1, h2, h3, h4, h5, h6⟩ := P
  exact ⟨h1, (e.1 3 (by omega)).trans h2, by rw [e.1 0 (by omega)]; exact h3, (e.1 2 (by omega)).trans h4, fun i hi => ⟨(h5 i hi).1.cg (fun k hk => e.2.1 i hi k (by omega)), (h5 i hi).2.cg (fun k _ hk => e.2.1 i hi k (by omega))⟩, fun j hj => (h6 j hj).cg (fun k hk => e.2.2 j hj k hk)⟩
/-- an hour of rain, in numbers -/
theorem cat_int {h : Nat} {r : Nat → Int32} (G : zGA h r) (hh : h ≤ 20000) {a : Int32} (a1 : 0 ≤ a.toInt) (a2 : a.toInt ≤ 99) :
    ∃ F : Int, F = a.toInt * (r 0).toInt * (r 2).toInt / 100 ∧ 0 ≤ F ∧ F ≤ 1782 ∧ (tipR r a).toInt = ((r 4).toInt + F) / (r 1).toInt ∧ (catR r a 4).toInt = ((r 4).toInt + F) % (r 1).toInt ∧ (catR r a 5).toInt = (r 5).toInt + ((r 4).toInt + F) / (r 1).toInt ∧ zGA (h + 1) (catR r a) := by
  obtain ⟨⟨m1, m2⟩, ⟨c1, c2⟩, ⟨s1, s2⟩, hw, d1, t1, t2, p1, p2⟩ := G
  have e1 : 0 ≤ a.toInt * (r 0).toInt ∧ a.toInt * (r 0).toInt ≤ 891 := by
    refine ⟨Int.mul_nonneg a1 (by omega), ?_⟩
    have h1 := Int.mul_le_mul_of_nonneg_right (c := (r 0).toInt) a2 (by omega)
    omega
  have e2 : (a * r 0).toInt = a.toInt * (r 0).toInt := ti_mul (by omega) (by omega)
  have e3 : 0 ≤ a.toInt * (r 0).toInt * (r 2).toInt ∧ a.toInt * (r 0).toInt * (r 2).toInt ≤ 178200 := by
    refine ⟨Int.mul_nonneg e1.1 s1, ?_⟩
    have h1 := Int.mul_le_mul_of_nonneg_right (c := (r 2).toInt) e1.2 s1
    omega
  have e4 : (a * r 0 * r 2).toInt = a.toInt * (r 0).toInt * (r 2).toInt := by
    rw [← e2]
    exact ti_mul (by rw [e2]; omega) (by rw [e2]; omega)
  obtain ⟨F, hF⟩ : ∃ F : Int, F = a.toInt * (r 0).toInt * (r 2).toInt / 100 := ⟨_, rfl⟩
  have F1 : 0 ≤ F ∧ F ≤ 1782 := by rw [hF]; omega
  have eF : (felR r a).toInt = F := by
    unfold felR
    have e5 : (100 : Int32).toInt = 100 := rfl
    rw [lg_idiv_nonneg (by rw [e4]; exact e3.1) (by rw [e5]; omega), e4, e5, hF]
  have eN : (r 4 + felR r a).toInt = (r 4).toInt + F := by
    have := ti_add (x := r 4) (y := felR r a) (by rw [eF]; omega) (by rw [eF]; omega)
    rw [this, eF]
  obtain ⟨N, hN⟩ : ∃ N : Int, N = (r 4).toInt + F := ⟨_, rfl⟩
  obtain ⟨c, hc⟩ : ∃ c : Int, c = (r 1).toInt := ⟨_, rfl⟩
  obtain ⟨t, ht⟩ : ∃ t : Int, t = N / c := ⟨_, rfl⟩
  have q1 : 0 ≤ t := by rw [ht]; exact Int.ediv_nonneg (by omega) (by omega)
  have q2 : N % c + t * c = N := by rw [ht]; exact Int.emod_add_ediv_mul N c
  have q3 : 0 ≤ N % c := Int.emod_nonneg N (by omega)
  have q4 : t ≤ t * c := by
    have z := Int.mul_nonneg q1 (show 0 ≤ c - 1 by omega)
    rw [Int.mul_sub, Int.mul_one] at z
    omega
  have eT : (tipR r a).toInt = t := by
    unfold tipR
    rw [if_pos (ti_pos c1), lg_idiv_nonneg (by rw [eN]; omega) (by omega), eN, ht, hN, hc]
  have eM : (tipR r a * r 1).toInt = t * c := by
    have := ti_mul (x := tipR r a) (y := r 1) (by rw [eT, ← hc]; omega) (by rw [eT, ← hc]; omega)
    rw [this, eT, ← hc]
  have k4 : (catR r a 4).toInt = N % c := by
    rw [catR_4]
    have := ti_sub (x := r 4 + felR r a) (y := tipR r a * r 1) (by rw [eN, eM]; omega) (by rw [eN, eM]; omega)
    rw [this, eN, eM]; omega
  have k5 : (catR r a 5).toInt = (r 5).toInt + t := by
    rw [catR_5]
    have := ti_add (x := r 5) (y := tipR r a) (by rw [eT]; omega) (by rw [eT]; omega)
    rw [this, eT]
  have k6 : (catR r a 6).toInt = (r 6).toInt + F := by
    rw [catR_6]
    have := ti_add (x := r 6) (y := felR r a) (by rw [eF]; omega) (by rw [eF]; omega)
    rw [this, eF]
  have k7 : (catR r a 7).toInt = (r 7).toInt + t * c := by
    rw [catR_7]
    have := ti_add (x := r 7) (y := tipR r a * r 1) (by rw [eM]; omega) (by rw [eM]; omega)
    rw [this, eM]
  refine ⟨F, hF, F1.1, F1.2, ?_, ?_, ?_, ?_⟩
  · rw [eT, ht, hN, hc]
  · rw [k4, hN, hc]
  · rw [k5, ht, hN, hc]
  · refine ⟨?_, ?_, ?_, ?_, ?_, ?_, ?_, ?_, ?_⟩
    · rw [catR_o _ _ (by omega)]; exact ⟨m1, m2⟩
    · rw [catR_o _ _ (by omega)]; exact ⟨c1, c2⟩
    · rw [catR_o _ _ (by omega)]; exact ⟨s1, s2⟩
    · rw [catR_o _ _ (by omega)]; exact hw
    · rw [k4]; exact q3
    · rw [k5]; omega
    · rw [k5, k7]; omega
    · rw [k4, k6, k7]; omega
    · rw [k6]; omega
/-- where a wheel stands -/
theorem wh_int {w : Nat} (h1 : 1 ≤ w) (h2 : w ≤ 60) {t : Int32} (ht : 0 ≤ t.toInt) : 0 ≤ (whI (nI w) t).toInt ∧ (whI (nI w) t).toInt < (w : Int) := by
  have ew : (nI w).toInt = w := nI_ti (by omega)
  have tl := Int32.toInt_lt t
  unfold whI
  have hw0 : 0 < nI w := nI_lt (a := 0) (by omega) (by omega)
  rw [if_pos hw0]
  have q1 : t.toInt % (w : Int) + t.toInt / (w : Int) * (w : Int) = t.toInt := Int.emod_add_ediv_mul _ _
  have q2 : 0 ≤ t.toInt % (w : Int) := Int.emod_nonneg _ (by omega)
  have q3 : t.toInt % (w : Int) < (w : Int) := Int.emod_lt_of_pos _ (by omega)
  have q4 : 0 ≤ t.toInt / (w : Int) := Int.ediv_nonneg ht (by omega)
  have q5 : 0 ≤ t.toInt / (w : Int) * (w : Int) := Int.mul_nonneg q4 (by omega)
  have e1 : (t / nI w).toInt = t.toInt / (w : Int) := by rw [lg_idiv_nonneg ht (by rw [ew]; omega), ew]
  have e2 : (t / nI w * nI w).toInt = t.toInt / (w : Int) * (w : Int) := by
    have := ti_mul (x := t / nI w) (y := nI w) (by rw [e1, ew]; omega) (by rw [e1, ew]; omega)
    rw [this, e1, ew]
  have e3 : (t - t / nI w * nI w).toInt = t.toInt % (w : Int) := by
    have := ti_sub (x := t) (y := t / nI w * nI w) (by rw [e2]; omega) (by rw [e2]; omega)
    rw [this, e2]; omega
  rw [e3]
  exact ⟨q2, q3⟩
/-- what a wheel went on -/
theorem wen_int {w : Nat} (h1 : 4 ≤ w) (h2 : w ≤ 60) {h : Nat} (hh : h ≤ 20000) {g vm : Int32} (v1 : 1 ≤ vm.toInt) {r : Nat → Int32} (r0 : 1 ≤ (r 0).toInt ∧ (r 0).toInt ≤ 9) (r1 : 1 ≤ (r 1).toInt) (r10 : 0 ≤ (r 10).toInt) (r11 : 0 ≤ (r 11).toInt ∧ (r 11).toInt ≤ 1782 * (h : Int)) {t c : Int32} (ht : 0 ≤ t.toInt) (hc : 0 ≤ c.toInt ∧ c.toInt ≤ 1782 * (h : Int)) : 0 ≤ (wenR (nI w) g vm r t c).toInt ∧ (¬ g = 1 → (wenR (nI w) g vm r t c).toInt < (w : Int)) := by
  have ew : (nI w).toInt = w := nI_ti (by omega)
  have A1 := wh_int (w := w) (by omega) h2 ht
  have A2 := wh_int (w := w) (by omega) h2 r10
  have es : (whI (nI w) t - whI (nI w) (r 10)).toInt = (whI (nI w) t).toInt - (whI (nI w) (r 10)).toInt := ti_sub (by omega) (by omega)
  have W2 : 0 ≤ (we2R (nI w) r t).toInt ∧ (we2R (nI w) r t).toInt < (w : Int) := by
    unfold we2R
    by_cases z : whI (nI w) t - whI (nI w) (r 10) < 0
    · rw [if_pos z]
      have z2 := ti_lt.mp z
      rw [es, ti_0] at z2
      have := ti_add (x := whI (nI w) t - whI (nI w) (r 10)) (y := nI w) (by rw [es, ew]; omega) (by rw [es, ew]; omega)
      rw [this, es, ew]
      omega
    · rw [if_neg z]
      have z2 := ti_le.mp (Int32.not_lt.mp z)
      rw [es, ti_0] at z2
      rw [es]
      omega
  unfold wenR
  by_cases hg : g = 1
  · rw [if_pos hg]
    refine ⟨?_, fun q => absurd hg q⟩
    have f1 : (c - r 11).toInt = c.toInt - (r 11).toInt := ti_sub (by omega) (by omega)
    have f2 : -320760000 ≤ (c - r 11).toInt * (r 0).toInt ∧ (c - r 11).toInt * (r 0).toInt ≤ 320760000 := by
      rw [f1]
      have b1 : c.toInt - (r 11).toInt ≤ 35640000 := by omega
      have b2 : -35640000 ≤ c.toInt - (r 11).toInt := by omega
      have g1 := Int.mul_le_mul_of_nonneg_right (c := (r 0).toInt) b1 (by omega)
      have g2 := Int.mul_le_mul_of_nonneg_right (c := (r 0).toInt) b2 (by omega)
      omega
    have f3 : ((c - r 11) * r 0).toInt = (c - r 11).toInt * (r 0).toInt := ti_mul (by omega) (by omega)
    have f4 := div_bd (x := (c - r 11) * r 0) v1 (B := 320760000) (by rw [f3]; exact f2.1) (by rw [f3]; exact f2.2)
    have f5 := div_bd (x := (c - r 11) * r 0 / vm) r1 (B := 320760000) f4.1 f4.2
    have f6 : -320760000 ≤ (expR vm r c).toInt ∧ (expR vm r c).toInt ≤ 320760000 := by
      unfold expR
      rw [if_neg (fun z => z.elim (ti_npos v1) (ti_npos r1))]
      exact f5
    obtain ⟨m, hm⟩ : ∃ m : Int32, m = expR vm r c - we2R (nI w) r t := ⟨_, rfl⟩
    have f7 : m.toInt = (expR vm r c).toInt - (we2R (nI w) r t).toInt := by rw [hm]; exact ti_sub (by omega) (by omega)
    rw [← hm]
    unfold rouR
    by_cases z : m ≤ 0 ∨ nI w ≤ 0
    · rw [if_pos z, Int32.mul_zero, Int32.add_zero]
      exact W2.1
    · rw [if_neg z]
      have zm : 1 ≤ m.toInt := by
        have z1 : ¬ m ≤ 0 := fun q => z (Or.inl q)
        have z2 := ti_lt.mp (Int32.not_le.mp z1)
        rw [ti_0] at z2
        omega
      have e2 : (2 : Int32).toInt = 2 := rfl
      have g1 : (2 * m).toInt = 2 * m.toInt := by
        have := ti_mul (x := 2) (y := m) (by rw [e2]; omega) (by rw [e2]; omega)
        rw [this, e2]
      have g2 : (2 * m + nI w).toInt = 2 * m.toInt + w := by
        have := ti_add (x := 2 * m) (y := nI w) (by rw [g1, ew]; omega) (by rw [g1, ew]; omega)
        rw [this, g1, ew]
      have g3 : (2 * m + nI w - 1).toInt = 2 * m.toInt + w - 1 := by
        have := ti_sub (x := 2 * m + nI w) (y := 1) (by rw [g2, ti_1]; omega) (by rw [g2, ti_1]; omega)
        rw [this, g2, ti_1]
      have g4 : (2 * nI w).toInt = 2 * (w : Int) := by
        have := ti_mul (x := 2) (y := nI w) (by rw [e2, ew]; omega) (by rw [e2, ew]; omega)
        rw [this, e2, ew]
      obtain ⟨R, hR⟩ : ∃ R : Int, R = (2 * m.toInt + w - 1) / (2 * (w : Int)) := ⟨_, rfl⟩
      have g5 : ((2 * m + nI w - 1) / (2 * nI w)).toInt = R := by
        rw [lg_idiv_nonneg (by rw [g3]; omega) (by rw [g4]; omega), g3, g4, hR]
      have k1 : 0 ≤ R := by rw [hR]; exact Int.ediv_nonneg (by omega) (by omega)
      have k2 : R * (2 * (w : Int)) ≤ 2 * m.toInt + w - 1 := by rw [hR]; exact Int.ediv_mul_le _ (by omega)
      have k3 : R * (2 * (w : Int)) = 2 * ((w : Int) * R) := by rw [Int.mul_comm R, Int.mul_assoc]
      have k4 : 0 ≤ (w : Int) * R := Int.mul_nonneg (by omega) k1
      have g6 : (nI w * ((2 * m + nI w - 1) / (2 * nI w))).toInt = (w : Int) * R := by
        have := ti_mul (x := nI w) (y := (2 * m + nI w - 1) / (2 * nI w)) (by rw [g5, ew]; omega) (by rw [g5, ew]; omega)
        rw [this, g5, ew]
      have g7 := ti_add (x := we2R (nI w) r t) (y := nI w * ((2 * m + nI w - 1) / (2 * nI w))) (by rw [g6]; omega) (by rw [g6]; omega)
      rw [g7, g6]
      omega
  · rw [if_neg hg]
    exact ⟨W2.1, fun _ => W2.2⟩
/-- a telling, in a page -/
theorem hea_PA {T h : Nat} (hT : T < 2 ^ 30) {r : Nat → Int32} (P : zPA T h r) {w g vm t hh c : Int32} (t1 : 0 ≤ t.toInt ∧ t.toInt ≤ 1782 * (h : Int)) (z1 : ∃ z, z ≤ h ∧ hh = nI z) (c1 : 0 ≤ c.toInt ∧ c.toInt ≤ 1782 * (h : Int)) : zPA (T + 1) h (heaR w g vm r t hh c) := by
  unfold heaR
  by_cases q1 : hh < r 9
  · rw [if_pos q1]
    exact (P.mono (Nat.le_succ T) (Nat.le_refl h)).cg (fun k _ hk => va_up_ne _ _ (by omega))
  · rw [if_neg q1]
    by_cases q2 : 0 < r 12 ∧ hh = r 9 ∧ whI w t = whI w (r 10)
    · rw [if_pos q2]
      exact (P.mono (Nat.le_succ T) (Nat.le_refl h)).cg (fun k _ hk => va_up_ne _ _ (by omega))
    · rw [if_neg q2]
      obtain ⟨-, -, -, ⟨b1, b2⟩, -⟩ := P
      have e12 : (r 12 + 1).toInt = (r 12).toInt + 1 := by
        have := ti_add (x := r 12) (y := 1) (by rw [ti_1]; omega) (by rw [ti_1]; omega)
        rw [this, ti_1]
      refine ⟨by rw [takR_9]; exact z1, by rw [takR_10]; exact t1, by rw [takR_11]; exact c1, by rw [takR_12, e12]; omega, fun q => ?_⟩
      rw [takR_12, e12] at q
      omega
