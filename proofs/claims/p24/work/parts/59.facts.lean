/-! what the law's checks rest on -/
theorem ge0 {x : Int32} (h : 0 ≤ x.toInt) : ¬ x < 0 := Int32.not_lt.mpr (ti_nn h)
theorem nIge0 {n : Nat} (h : n < 2 ^ 31) : ¬ nI n < 0 := nI_pos h
theorem ring1 (a b x : Int32) : (a - b) - (a - (b + x)) = x := by
  rw [Int32.sub_eq_iff_eq_add, ← Int32.sub_sub, Int32.add_comm x, Int32.sub_add_cancel]
theorem sum_add (f q : Nat → Int32) : ∀ n, sumN (fun i => f i + q i) n = sumN f n + sumN q n := by
  intro n
  induction n with
  | zero => rfl
  | succ n ih =>
    show sumN (fun i => f i + q i) n + (f n + q n) = (sumN f n + f n) + (sumN q n + q n)
    rw [ih, Int32.add_assoc, Int32.add_assoc, ← Int32.add_assoc (sumN q n) (f n), Int32.add_comm (sumN q n) (f n), Int32.add_assoc (f n)]
theorem sum_cg {f q : Nat → Int32} : ∀ n, (∀ i, i < n → f i = q i) → sumN f n = sumN q n := by
  intro n
  induction n with
  | zero => intro _; rfl
  | succ n ih =>
    intro h
    show sumN f n + f n = sumN q n + q n
    rw [ih (fun i hi => h i (by omega)), h n (by omega)]
section
variable {B H T n h : Nat} {c : CS} {v : VV}
theorem zPI.caught (P : zPI B T v n h) {i : Nat} (hi : i < 6) (hh : h ≤ 20000) : v.2.1 i 6 = v.2.1 i 7 + v.2.1 i 4 := by
  obtain ⟨-, -, -, -, d1, t1, t2, p1, p2⟩ := (P.2.2.2.2.1 i hi).1
  apply ti_inj
  rw [ti_add (by omega) (by omega)]
  omega
theorem zPI.wheelAt (P : zPI B T v n h) {t : Int32} : whC v t = t - t / v.1 0 * v.1 0 := by
  obtain ⟨w, w1, w2, w3⟩ := P.2.2.1
  have hw0 : 0 < v.1 0 := by rw [w3]; exact nI_lt (a := 0) (by omega) (by omega)
  unfold whC
  exact if_pos hw0
theorem zPI.wheelNz (P : zPI B T v n h) : ¬ v.1 0 = 0 := by
  obtain ⟨w, w1, w2, w3⟩ := P.2.2.1
  rw [w3]
  exact fun q => by
    have := nI_ij (by omega) (by omega) (b := 0) q
    omega
theorem zPI.wheelIn (P : zPI B T v n h) {t : Int32} (ht : 0 ≤ t.toInt) : 0 ≤ (whC v t).toInt ∧ ¬ v.1 0 ≤ whC v t := by
  obtain ⟨w, w1, w2, w3⟩ := P.2.2.1
  rw [wh_eq, w3]
  have z := wh_int (w := w) (by omega) w2 ht
  refine ⟨z.1, Int32.not_le.mpr (ti_lt.mpr ?_)⟩
  rw [nI_ti (by omega)]
  exact z.2
theorem zPI.late (P : zPI B T v n h) {i : Nat} (hi : i < 6) (hh : h ≤ 20000) : ¬ nI h < v.2.1 i 9 := by
  obtain ⟨⟨q, q1, q2⟩, -⟩ := (P.2.2.2.2.1 i hi).2
  rw [q2]
  exact Int32.not_lt.mpr (nI_le q1 (by omega))
theorem zPI.taken (P : zPI B T v n h) {i : Nat} (hi : i < 6) (h0 : ¬ 0 < v.2.1 i 12) : v.2.1 i 8 = 0 ∧ v.2.1 i 9 = 0 := by
  obtain ⟨-, -, -, ⟨b1, b2⟩, b3⟩ := (P.2.2.2.2.1 i hi).2
  apply b3
  have z := ti_le.mp (Int32.not_lt.mp h0)
  rw [ti_0] at z
  omega
theorem zPI.all (P : zPI B T v n h) (hh : h ≤ 20000) : sumN (fun i => v.2.1 i 6) 6 = sumN (fun i => v.2.1 i 7 + v.2.1 i 4) 6 := sum_cg 6 (fun _ hi => P.caught hi hh)
theorem gap_n {i : Nat} (h0 : ¬ v.2.1 i 5 - v.2.1 i 8 = 0) : gapN v i + nI 1 = gapN v (i + 1) := (if_neg h0).symm
theorem gap_z {i : Nat} (h0 : v.2.1 i 5 - v.2.1 i 8 = 0) : gapN v i + nI 0 = gapN v (i + 1) := (Int32.add_zero _).trans (if_pos h0).symm
/-! what a runner shows -/
theorem zPI.run1 (P : zPI B T v n h) {j : Nat} (hj : j < n) : ¬ v.1 0 ≤ whC v (v.2.2 j 1) := (P.wheelIn (P.2.2.2.2.2 j hj).2.1.1).2
theorem zPI.run2 (P : zPI B T v n h) {j : Nat} (hj : j < n) (hh : h ≤ 20000) : ¬ nI h < v.2.2 j 2 := by
  obtain ⟨-, -, ⟨z, z1, z2⟩, -⟩ := P.2.2.2.2.2 j hj
  rw [z2]
  exact Int32.not_lt.mpr (nI_le z1 (by omega))
theorem zPI.run3 (P : zPI B T v n h) {j : Nat} (hj : j < n) (hB : B < 70) : ¬ v.2.2 j 4 ≤ 0 ∧ ¬ nI 70 ≤ v.2.2 j 4 := by
  obtain ⟨-, -, -, -, ⟨d, d1, d2, d3⟩⟩ := P.2.2.2.2.2 j hj
  rw [d3]
  exact ⟨nI_nle (by omega) (by omega), nI_ge (by omega) (by omega)⟩
/-! changes of a whole state -/
theorem zSI.rain (S : zSI B H T c) (P : zPI B T c.1 n h) (hh : h ≤ H) (hg : 0 ≤ (c.1.1 1).toInt) {y q : Nat} (hy : y ≤ 99) (q2 : q ≤ 24) (hH : H + 24 ≤ 4000) (hB : B ≤ 1000) (hT : T ≤ 1000000) : zSI B (H + q) (T + 20 * q) (recX c (pasC (nI y) c.1 q)) ∧ (∃ n', zPI B (T + 20 * q) (pasC (nI y) c.1 q) n' (h + q)) ∧ ¬ pasT (nI y) c.1 q < 0 := by
  have ey : (nI y).toInt = y := nI_ti (by omega)
  obtain ⟨n', P'⟩ := P.pas' (a := nI y) (by rw [ey]; omega) (by rw [ey]; omega) q (by omega) (by omega) (by omega)
  refine ⟨S.rec ⟨n', h + q, by omega, by rw [pas_W _ _ (by omega) (by omega)]; exact hg, P'⟩ (Nat.le_refl B) (by omega) (by omega), ⟨n', P'⟩, ge0 ?_⟩
  exact (pat_int P (a := nI y) (by rw [ey]; omega) (by rw [ey]; omega) q q2 (by omega) (by omega) (by omega)).1
theorem zSI.snd (S : zSI B H T c) (P : zPI B T c.1 n h) (hh : h ≤ H) (hg : 0 ≤ (c.1.1 1).toInt) {i : Nat} (hi : i < 6) (hn : n < 20) (hB : 9 ≤ B) (hT : T ≤ 1000000) : zSI B H (T + 1) (recX c (senC c.1 i n)) ∧ ¬ whC (senC c.1 i n) ((senC c.1 i n).2.1 i 5) < 0 := by
  obtain ⟨n', -, P'⟩ := P.send hB (by omega) hn hi
  refine ⟨S.rec ⟨n', h, hh, by rw [sen_W _ _ _ (by omega)]; exact hg, P'⟩ (Nat.le_refl B) (Nat.le_refl H) (Nat.le_succ T), ge0 ?_⟩
  refine (P'.wheelIn ?_).1
  rw [sen_5 _ hi (by omega)]
  exact (P.2.2.2.2.1 i hi).1.2.2.2.2.2.1
theorem zSI.los (S : zSI B H T c) (P : zPI B T c.1 n h) (hh : h ≤ H) (hg : 0 ≤ (c.1.1 1).toInt) {j : Nat} (hj : j < n) : zSI B H T (recX c (rmvC (cosC c.1 j) j n)) ∧ ¬ c.1.2.2 j 0 < 0 := by
  refine ⟨S.rec ⟨n - 1, h, hh, ?_, P.lose hj⟩ (Nat.le_refl B) (Nat.le_refl H) (Nat.le_refl T), ?_⟩
  · show 0 ≤ (va_up (cosC c.1 j).1 3 (nI (n - 1)) 1).toInt
    rw [va_up_ne _ _ (by omega), cosC_1]; exact hg
  · obtain ⟨⟨i, hi, e⟩, -⟩ := P.2.2.2.2.2 j hj
    rw [e]
    exact nIge0 (by omega)
theorem zSI.twi (S : zSI B H T c) (P : zPI B T c.1 n h) (hh : h ≤ H) (hg : 0 ≤ (c.1.1 1).toInt) (hn : n < 20) {j : Nat} (hj : j < n) : zSI (B + 1) H T (recX c (twiC c.1 j n)) := by
  refine S.rec ⟨n + 1, h, hh, ?_, P.twice hn hj⟩ (Nat.le_succ B) (Nat.le_refl H) (Nat.le_refl T)
  show 0 ≤ (va_up c.1.1 3 (nI n + 1) 1).toInt
  rw [va_up_ne _ _ (by omega)]; exact hg
theorem zSI.gau (S : zSI B H T c) (P : zPI B T c.1 n h) (hh : h ≤ H) (hg : 0 ≤ (c.1.1 1).toInt) {i : Nat} (hi : i < 6) {a b d : Int32} {w : Nat} (a1 : 1 ≤ a.toInt ∧ a.toInt ≤ 9) (b1 : 1 ≤ b.toInt ∧ b.toInt ≤ 50) (d1 : 0 ≤ d.toInt ∧ d.toInt ≤ 200) (w1 : w ≤ 9) : zSI B H T (recX c (gauV c.1 i a b d (nI w))) ∧ ¬ c.1.2.1 i 4 < 0 :=
  ⟨S.rec ⟨n, h, hh, hg, P.gauge hi a1 b1 d1 w1⟩ (Nat.le_refl B) (Nat.le_refl H) (Nat.le_refl T), ge0 (P.2.2.2.2.1 i hi).1.2.2.2.2.1⟩
theorem zSI.st0 (S : zSI B H T c) (P : zPI B T c.1 n h) (hh : h ≤ H) (hg : 0 ≤ (c.1.1 1).toInt) {x : Nat} (x1 : 4 ≤ x) (x2 : x ≤ 60) : zSI B H T (recX c (chgC c.1 n (nI x))) ∧ ¬ c.1.1 0 < 0 := by
  refine ⟨S.rec ⟨0, h, hh, ?_, P.wheel x1 x2⟩ (Nat.le_refl B) (Nat.le_refl H) (Nat.le_refl T), ?_⟩
  · show 0 ≤ (va_up (va_up (cosL c.1 n).1 3 (nI 0)) 0 (nI x) 1).toInt
    rw [va_up_ne _ _ (by omega), va_up_ne _ _ (by omega), cosL_1]; exact hg
  · obtain ⟨w, w1, w2, w3⟩ := P.2.2.1
    rw [w3]
    exact nIge0 (by omega)
theorem zSI.st1 (S : zSI B H T c) (P : zPI B T c.1 n h) (hh : h ≤ H) (hg : 0 ≤ (c.1.1 1).toInt) {x : Int32} (hx : x = 0 ∨ x = 1) : zSI B H T (recX c (vW c.1 1 x)) ∧ ¬ c.1.1 1 < 0 := by
  refine ⟨S.rec ⟨n, h, hh, ?_, P.guess x⟩ (Nat.le_refl B) (Nat.le_refl H) (Nat.le_refl T), ge0 hg⟩
  show 0 ≤ (va_up c.1.1 1 x 1).toInt
  rw [va_up_self]
  rcases hx with rfl | rfl <;> decide
end
/-! a runner who is sent now -/
theorem hea_again {w g vm t hh cc : Int32} {r : Nat → Int32} {T : Nat} (hT : T ≤ 1000000) (h9 : ¬ hh < r 9) (b1 : 0 ≤ (r 12).toInt) (b2 : (r 12).toInt ≤ (T : Int)) (g' vm' cc' : Int32) : heaR w g vm r t hh cc 9 = hh ∧ heaR w g' vm' (heaR w g vm r t hh cc) t hh cc' 8 = heaR w g vm r t hh cc 8 ∧ (heaR w g vm r t hh cc 8 = r 8 ∨ heaR w g vm r t hh cc 8 = r 8 + wenR w g vm r t cc) := by
  obtain ⟨F, hF⟩ : ∃ F, F = heaR w g vm r t hh cc := ⟨_, rfl⟩
  have key : F 9 = hh ∧ 0 < F 12 ∧ whI w t = whI w (F 10) ∧ (F 8 = r 8 ∨ F 8 = r 8 + wenR w g vm r t cc) := by
    rw [hF]
    unfold heaR
    rw [if_neg h9]
    by_cases q2 : 0 < r 12 ∧ hh = r 9 ∧ whI w t = whI w (r 10)
    · rw [if_pos q2, va_up_ne _ _ (by omega), va_up_ne _ _ (by omega), va_up_ne _ _ (by omega), va_up_ne _ _ (by omega)]
      exact ⟨q2.2.1.symm, q2.1, q2.2.2, Or.inl rfl⟩
    · rw [if_neg q2, takR_9, takR_12, takR_10, takR_8]
      refine ⟨rfl, ti_pos ?_, rfl, Or.inr rfl⟩
      have := ti_add (x := r 12) (y := 1) (by rw [ti_1]; omega) (by rw [ti_1]; omega)
      rw [this, ti_1]
      omega
  rw [← hF]
  refine ⟨key.1, ?_, key.2.2.2⟩
  show (if hh < F 9 then va_up F 13 (F 13 + 1) else if 0 < F 12 ∧ hh = F 9 ∧ whI w t = whI w (F 10) then va_up F 14 (F 14 + 1) else takR w g' vm' F t hh cc') 8 = F 8
  rw [if_neg (by rw [key.1]; exact Int32.lt_irrefl), if_pos ⟨key.2.1, key.1.symm, key.2.2.1⟩]
  exact va_up_ne _ _ (by omega)
/-- the gap that a runner who is sent now would leave -/
def sentG (c : CS) (i : Nat) : Int32 := c.1.2.1 i 5 - heaR (c.1.1 0) (c.1.1 1) (c.1.2.1 0 0) (c.1.2.1 i) (c.1.2.1 i 5) (c.1.1 2) (c.1.2.1 0 6) 8
theorem sent_facts {B H T n h : Nat} {c : CS} (S : zSI B H T c) (P : zPI B T c.1 n h) (hh : h ≤ H) (hH : H ≤ 10000) (hg : 0 ≤ (c.1.1 1).toInt) {i : Nat} (hi : i < 6) (hn : n < 20) (hB : 9 ≤ B) (hT : T ≤ 1000000) {c2 c3 : CS} (e2 : c2 = recX c (gauV c.1 i (c.1.2.1 i 0) (c.1.2.1 i 1) (c.1.2.1 i 2) (nI 0))) (e3 : c3 = recX c2 (senC c2.1 i n)) :
    zSI B H T c2 ∧ c2.1.1 3 = nI n ∧ c2.1.2.1 i 4 = c.1.2.1 i 4 ∧ whC (senC c2.1 i n) ((senC c2.1 i n).2.1 i 5) = whC c.1 (c.1.2.1 i 5) ∧ zSI B H (T + 1) c3 ∧ c3.1.2.1 i 5 - c3.1.2.1 i 8 = sentG c i ∧ c3.1.2.1 i 9 = nI h ∧ c3.1.1 2 = nI h ∧ sentG c3 i = sentG c i ∧ c3.1.1 1 = c.1.1 1 ∧ c3.1.1 0 = c.1.1 0 ∧ ¬ (c.1.2.1 i 5 - c.1.2.1 i 8) - sentG c i < 0 ∧ (c.1.1 1 = 1 ∨ ¬ c.1.1 0 ≤ (c.1.2.1 i 5 - c.1.2.1 i 8) - sentG c i) ∧ zTop2 c3 c.1 n := by
  have G := (P.2.2.2.2.1 i hi).1
  have Q := (P.2.2.2.2.1 i hi).2
  have G0 := (P.2.2.2.2.1 0 (by omega)).1
  have p2 := P.2.1
  have p4 := P.2.2.2.1
  have S2 := (S.gau P hh hg hi G.1 G.2.1 G.2.2.1 (show 0 ≤ 9 by omega)).1
  have P2 := P.gauge hi G.1 G.2.1 G.2.2.1 (show 0 ≤ 9 by omega)
  rw [← e2] at S2
  have ev : c2.1 = gauV c.1 i (c.1.2.1 i 0) (c.1.2.1 i 1) (c.1.2.1 i 2) (nI 0) := by rw [e2]; rfl
  rw [← ev] at P2
  have ew : c2.1.1 = c.1.1 := by rw [ev]; rfl
  have hg2 : 0 ≤ (c2.1.1 1).toInt := by rw [ew]; exact hg
  have S3 := (S2.snd P2 hh hg2 hi hn hB hT).1
  rw [← e3] at S3
  have r3 : Row3 (c2.1.2.1 i) (c.1.2.1 i) := by
    intro k hk hk3
    rw [ev]
    rcases (by omega : k = 0 ∨ k = 1 ∨ k = 2 ∨ 4 ≤ k) with rfl | rfl | rfl | h4
    · exact gau_0 _ _ _ _ _ _
    · exact gau_1 _ _ _ _ _ _
    · exact gau_2 _ _ _ _ _ _
    · exact gau_k _ _ _ _ _ _ h4
  have r03 : Row3 (c2.1.2.1 0) (c.1.2.1 0) := by
    by_cases e : i = 0
    · subst e; exact r3
    · rw [ev, gau_o _ _ _ _ _ _ (fun z => e z.symm)]
      exact fun _ _ _ => rfl
  have way : c2.1.2.1 i 3 = 0 := by rw [ev, gau_3]; rfl
  obtain ⟨-, rr⟩ := sen_now (v := c2.1) (n := n) hi way
  have ec3 : c3.1 = senC c2.1 i n := by rw [e3]; rfl
  have row : c3.1.2.1 i = heaR (c.1.1 0) (c.1.1 1) (c.1.2.1 0 0) (c2.1.2.1 i) (c.1.2.1 i 5) (c.1.1 2) (c.1.2.1 0 6) := by
    rw [ec3, rr, va_up_self, ew, r3 5 (by omega) (by omega), r03 0 (by omega) (by omega), r03 6 (by omega) (by omega)]
  have row3 := Row3.hea r3 (c.1.1 0) (c.1.1 1) (c.1.2.1 0 0) (c.1.2.1 i 5) (c.1.1 2) (c.1.2.1 0 6)
  rw [← row] at row3
  have k5 : ∀ j k, k < 8 → c3.1.2.1 j k = c2.1.2.1 j k := fun j k hk => by rw [ec3]; exact sen_5 _ hi hk j
  have kw : ∀ k, k ≠ 3 → c3.1.1 k = c.1.1 k := fun k hk => by rw [ec3, sen_W _ _ _ hk, ew]
  have e5 : c3.1.2.1 i 5 = c.1.2.1 i 5 := (k5 i 5 (by omega)).trans (r3 5 (by omega) (by omega))
  have q9 : ¬ c.1.1 2 < c2.1.2.1 i 9 := by
    rw [p4, r3 9 (by omega) (by omega)]
    exact P.late hi (by omega)
  obtain ⟨a9, a8, aw⟩ := hea_again (w := c.1.1 0) (g := c.1.1 1) (vm := c.1.2.1 0 0) (t := c.1.2.1 i 5) (hh := c.1.1 2) (cc := c.1.2.1 0 6) (r := c2.1.2.1 i) hT q9 (by rw [r3 12 (by omega) (by omega)]; exact Q.2.2.2.1.1) (by rw [r3 12 (by omega) (by omega)]; exact Q.2.2.2.1.2) (c.1.1 1) (c.1.2.1 0 0) (c.1.2.1 0 6)
  rw [← row] at a9 a8 aw
  have gap : c3.1.2.1 i 5 - c3.1.2.1 i 8 = sentG c i := by
    unfold sentG
    rw [e5, row3 8 (by omega) (by omega)]
  have ewen : wenR (c.1.1 0) (c.1.1 1) (c.1.2.1 0 0) (c2.1.2.1 i) (c.1.2.1 i 5) (c.1.2.1 0 6) = wenR (c.1.1 0) (c.1.1 1) (c.1.2.1 0 0) (c.1.2.1 i) (c.1.2.1 i 5) (c.1.2.1 0 6) := by
    unfold wenR expR we2R
    rw [r3 0 (by omega) (by omega), r3 1 (by omega) (by omega), r3 10 (by omega) (by omega), r3 11 (by omega) (by omega)]
  have e8 : c2.1.2.1 i 8 = c.1.2.1 i 8 := r3 8 (by omega) (by omega)
  rw [ewen, e8] at aw
  obtain ⟨w, w1, w2, w3⟩ := P.2.2.1
  have wi := wen_int (w := w) w1 w2 (h := h) (by omega) (g := c.1.1 1) (vm := c.1.2.1 0 0) G0.1.1 (r := c.1.2.1 i) G.1 G.2.1.1 Q.2.1.1 Q.2.2.1 (t := c.1.2.1 i 5) (c := c.1.2.1 0 6) G.2.2.2.2.2.1 ⟨by
    obtain ⟨-, -, -, -, d1, t1, t2, p1, p2⟩ := G0
    omega, G0.2.2.2.2.2.2.2.2⟩
  rw [← w3] at wi
  have went : (c.1.2.1 i 5 - c.1.2.1 i 8) - sentG c i = 0 ∨ (c.1.2.1 i 5 - c.1.2.1 i 8) - sentG c i = wenR (c.1.1 0) (c.1.1 1) (c.1.2.1 0 0) (c.1.2.1 i) (c.1.2.1 i 5) (c.1.2.1 0 6) := by
    rw [← gap, e5]
    rcases aw with z | z
    · rw [z]
      exact Or.inl (Int32.sub_self _)
    · rw [z]
      exact Or.inr (ring1 _ _ _)
  refine ⟨S2, by rw [ew]; exact p2, r3 4 (by omega) (by omega), ?_, S3, gap, a9.trans p4, (kw 2 (by omega)).trans p4, ?_, kw 1 (by omega), kw 0 (by omega), ?_, ?_, ?_⟩
  · rw [← ec3, e5, wh_eq, wh_eq, kw 0 (by omega)]
  · unfold sentG
    rw [k5 0 0 (by omega), k5 0 6 (by omega), r03 0 (by omega) (by omega), r03 6 (by omega) (by omega), kw 0 (by omega), kw 1 (by omega), kw 2 (by omega), e5, a8, row3 8 (by omega) (by omega)]
  · rcases went with z | z
    · rw [z]; decide
    · rw [z]; exact ge0 wi.1
  · by_cases hg1 : c.1.1 1 = 1
    · exact Or.inl hg1
    · refine Or.inr (Int32.not_le.mpr (ti_lt.mpr ?_))
      rw [w3, nI_ti (by omega)]
      rcases went with z | z
      · rw [z, ti_0]; omega
      · rw [z]; exact wi.2 hg1
  · rw [e3]
    refine rec_top2 ?_ _
    rw [e2]
    exact rec_top P.onN _
/-! all who are on the way -/
theorem lon_int {B T n h : Nat} {v : VV} (P : zPI B T v n h) (hB : B ≤ 1000) : ∀ j, j ≤ n → ∃ q, lonC v j = nI q ∧ q ≤ B ∧ (∀ k, k < j → ∃ d, 1 ≤ d ∧ d ≤ q ∧ v.2.2 k 4 = nI d) := by
  intro j
  induction j with
  | zero => intro _; exact ⟨0, rfl, by omega, fun k hk => absurd hk (Nat.not_lt_zero k)⟩
  | succ j ih =>
    intro hj
    obtain ⟨q, q1, q2, q3⟩ := ih (by omega)
    obtain ⟨-, -, -, -, ⟨d, d1, d2, d3⟩⟩ := P.2.2.2.2.2 j (by omega)
    unfold lonC
    rw [q1, d3]
    by_cases z : q < d
    · rw [if_pos (nI_lt z (by omega))]
      refine ⟨d, rfl, d2, fun k hk => ?_⟩
      by_cases e : k = j
      · rw [e]; exact ⟨d, d1, Nat.le_refl d, d3⟩
      · obtain ⟨d', a1, a2, a3⟩ := q3 k (by omega)
        exact ⟨d', a1, by omega, a3⟩
    · rw [if_neg (Int32.not_lt.mpr (nI_le (by omega) (by omega)))]
      refine ⟨q, rfl, q2, fun k hk => ?_⟩
      by_cases e : k = j
      · rw [e]; exact ⟨d, d1, by omega, d3⟩
      · exact q3 k (by omega)
theorem lon_y {v : VV} {j : Nat} (h : ¬ v.2.2 j 4 ≤ lonC v j) : v.2.2 j 4 = lonC v (j + 1) := (if_pos (Int32.not_le.mp h)).symm
theorem lon_n {v : VV} {j : Nat} (h : v.2.2 j 4 ≤ lonC v j) : lonC v j = lonC v (j + 1) := (if_neg (Int32.not_lt.mpr h)).symm
theorem allc_eq {B T n h : Nat} {c : CS} (P : zPI B T c.1 n h) {t : VV} {i q : Nat} (hi : i < 6) (hq : lonC c.1 n = nI q) (hq2 : q < 2 ^ 31) : oIfAll (cpyC t c.1 (onN c.1)) (onN c.1) (nI i) = (pasC (nI 0) c.1 q).2.1 i 5 - (pasC (nI 0) c.1 q).2.1 i 8 := by
  rw [P.onN]
  have e := Eq2.cpy t c.1 n
  obtain ⟨u, hu⟩ : ∃ u, u = cpyC t c.1 n := ⟨_, rfl⟩
  rw [← hu] at e ⊢
  unfold oIfAll
  rw [gxn_in hi (by decide)]
  dsimp only
  rw [e.lon n (Nat.le_refl n), hq, nI_clamp hq2]
  obtain ⟨m, -, -, e2⟩ := e.pas ((e.1 3 (by omega)).trans P.2.1) P.1 0 q
  rw [e2.2.1 i hi 5 (by omega), e2.2.1 i hi 8 (by omega)]
  rfl
theorem all_come {B T n h q : Nat} {v : VV} (P : zPI B T v n h) (hl : ∀ k, k < n → ∃ d, 1 ≤ d ∧ d ≤ q ∧ v.2.2 k 4 = nI d) (hq : q ≤ 1000) (hh : h + q ≤ 20000) (hT : T + 20 * q < 2 ^ 30) : (pasC (nI 0) v q).1 3 = nI 0 := by
  have P' : zPI (0 + q) T v n h := by
    obtain ⟨h1, h2, h3, h4, h5, h6⟩ := P
    refine ⟨h1, h2, h3, h4, h5, fun j hj => ?_⟩
    obtain ⟨a, b1, b2, b3, -⟩ := h6 j hj
    obtain ⟨d, d1, d2, d3⟩ := hl j hj
    exact ⟨a, b1, b2, b3, d, d1, by omega, d3⟩
  obtain ⟨n', Q⟩ := zPI.pas (a := nI 0) (by decide) (by decide) q P' (by omega) hh hT
  have : n' = 0 := by
    rcases Nat.eq_zero_or_pos n' with z | z
    · exact z
    · obtain ⟨-, -, -, -, ⟨d, d1, d2, -⟩⟩ := Q.2.2.2.2.2 0 z
      omega
  subst this
  exact Q.2.1
/-! the gauge that needs a runner most -/
theorem mos_rng (v : VV) : ∀ n, n ≤ 6 → (mosP v n).2 = -1000006 ∨ ∃ k, k < 6 ∧ (mosP v n).2 = nI k := by
  intro n
  induction n with
  | zero => intro _; exact Or.inl rfl
  | succ n ih =>
    intro hn
    unfold mosP
    split
    · exact Or.inr ⟨n, by omega, rfl⟩
    · exact ih (by omega)
