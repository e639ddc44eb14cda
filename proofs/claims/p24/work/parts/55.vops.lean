/-! changes keep what holds of a valley -/
theorem seR_o (v : VV) (i n : Nat) {j : Nat} (h : j ≠ n) : (seR v i n).2.2 j = v.2.2 j := by
  unfold seR
  dsimp only
  rw [up2_i h, up2_i h, up2_i h, up2_i h, up2_i h]
theorem seR_0 (v : VV) (i n : Nat) : (seR v i n).2.2 n 0 = nI i := by
  unfold seR
  dsimp only
  rw [up2_k (by omega), up2_k (by omega), up2_k (by omega), up2_k (by omega), up2_s]
theorem seR_1 (v : VV) (i n : Nat) : (seR v i n).2.2 n 1 = v.2.1 i 5 := by
  unfold seR
  dsimp only
  rw [up2_k (by omega), up2_k (by omega), up2_k (by omega), up2_s]
theorem seR_2 (v : VV) (i n : Nat) : (seR v i n).2.2 n 2 = v.1 2 := by
  unfold seR
  dsimp only
  rw [up2_k (by omega), up2_k (by omega), up2_s]
  exact va_up_ne _ _ (by omega)
theorem seR_3' (v : VV) (i n : Nat) : (seR v i n).2.2 n 3 = v.2.1 0 6 := by
  unfold seR
  dsimp only
  rw [up2_k (by omega), up2_s]
theorem seR_4 (v : VV) (i n : Nat) : (seR v i n).2.2 n 4 = v.2.1 i 3 := by
  unfold seR
  dsimp only
  rw [up2_s]
theorem seR_G (v : VV) (i n : Nat) : (seR v i n).2.1 = v.2.1 := rfl
theorem seR_W (v : VV) (i n : Nat) {q : Nat} (h : q ≠ 3) : (seR v i n).1 q = v.1 q := va_up_ne _ _ h
/-- a runner who has no way tells at once -/
theorem sen_now {v : VV} {i n : Nat} (hi : i < 6) (h : v.2.1 i 3 = 0) : senC v i n = rmvC (heaC (seR v i n) n) n (n + 1) ∧ (senC v i n).2.1 = va_up v.2.1 i (heaR (v.1 0) (v.1 1) (v.2.1 0 0) (v.2.1 i) (v.2.1 i 5) (v.1 2) (v.2.1 0 6)) := by
  have e : senC v i n = rmvC (heaC (seR v i n) n) n (n + 1) := by
    unfold senC
    rw [if_pos (by rw [seR_4]; exact h)]
  refine ⟨e, ?_⟩
  rw [e]
  show (heaC (seR v i n) n).2.1 = _
  rw [hea_eq (i := i) (by rw [seR_0]; exact gxn_in hi (by decide)), seR_1, seR_2, seR_3', seR_G, seR_W v i n (by omega), seR_W v i n (by omega)]
theorem sen_W (v : VV) (i n : Nat) {q : Nat} (h : q ≠ 3) : (senC v i n).1 q = v.1 q := by
  unfold senC
  split
  · show va_up (heaC (seR v i n) n).1 3 _ q = _
    rw [va_up_ne _ _ h, heaC_1, seR_W v i n h]
  · exact seR_W v i n h
theorem sen_5 (v : VV) {i n : Nat} (hi : i < 6) {k : Nat} (hk : k < 8) (j : Nat) : (senC v i n).2.1 j k = v.2.1 j k := by
  by_cases h : v.2.1 i 3 = 0
  · rw [(sen_now hi h).2]
    by_cases e : j = i
    · rw [e, va_up_self]; exact heaR_o hk
    · rw [va_up_ne _ _ e]
  · unfold senC
    rw [if_neg (by rw [seR_4]; exact h)]
    rfl
theorem zPI.send {B T n h : Nat} {v : VV} (P : zPI B T v n h) (hB : 9 ≤ B) (hT : T < 2 ^ 30) (hn : n < 20) {i : Nat} (hi : i < 6) : ∃ n', n' ≤ n + 1 ∧ zPI B (T + 1) (senC v i n) n' h := by
  obtain ⟨h1, h2, ⟨w, w1, w2, w3⟩, h4, h5, h6⟩ := P
  have rg : ∀ j, j < 6 → ∃ q, q < 6 ∧ v.2.1 j 5 = v.2.1 j 5 := fun j hj => ⟨0, by omega, rfl⟩
  have bt := (h5 i hi).1
  have b0 := (h5 0 (by omega)).1
  obtain ⟨-, -, -, ⟨y, y1, y2⟩, d1, t1, t2, p1, p2⟩ := bt
  obtain ⟨-, -, -, -, d1', t1', t2', p1', p2'⟩ := b0
  by_cases hz : v.2.1 i 3 = 0
  · obtain ⟨e1, e2⟩ := sen_now (n := n) hi hz
    refine ⟨n, by omega, by omega, ?_, ⟨w, w1, w2, ?_⟩, ?_, fun j hj => ?_, fun j hj => ?_⟩
    · rw [e1, rmvC_3]; rfl
    · rw [sen_W v i n (by omega)]; exact w3
    · rw [sen_W v i n (by omega)]; exact h4
    · rw [e2]
      by_cases e : j = i
      · rw [e, va_up_self]
        exact ⟨(h5 i hi).1.cg (fun q hq => heaR_o hq), hea_PA hT (h5 i hi).2 ⟨t1, by omega⟩ ⟨h, Nat.le_refl h, h4⟩ ⟨by omega, by omega⟩⟩
      · rw [va_up_ne _ _ e]
        exact ⟨(h5 j hj).1, (h5 j hj).2.mono (Nat.le_succ T) (Nat.le_refl h)⟩
    · rw [e1]
      show zRA B h (rotN n (n + 1) (heaC (seR v i n) n).2.2 j)
      rw [rot_lo _ (by omega), if_pos hj, heaC_2, seR_o v i n (by omega)]
      exact h6 j hj
  · have e1 : senC v i n = seR v i n := by
      unfold senC
      rw [if_neg (by rw [seR_4]; exact hz)]
    rw [e1]
    refine ⟨n + 1, by omega, by omega, seR_3 v i n, ⟨w, w1, w2, ?_⟩, ?_, fun j hj => ?_, fun j hj => ?_⟩
    · rw [seR_W v i n (by omega)]; exact w3
    · rw [seR_W v i n (by omega)]; exact h4
    · exact ⟨(h5 j hj).1, (h5 j hj).2.mono (Nat.le_succ T) (Nat.le_refl h)⟩
    · by_cases e : j = n
      · subst e
        refine ⟨⟨i, hi, seR_0 v i j⟩, by rw [seR_1]; exact ⟨t1, by omega⟩, ⟨h, Nat.le_refl h, by rw [seR_2]; exact h4⟩, by rw [seR_3']; exact ⟨by omega, by omega⟩, y, ?_, by omega, by rw [seR_4]; exact y2⟩
        rcases Nat.eq_zero_or_pos y with q | q
        · subst q; exact absurd y2 hz
        · exact q
      · rw [seR_o v i n e]
        exact h6 j (by omega)
theorem cos_row (v : VV) (j i : Nat) {k : Nat} (hk : k ≠ 15) : (cosC v j).2.1 i k = v.2.1 i k := by
  unfold cosC
  split
  · rfl
  · rename_i q _
    show up2 v.2.1 q 15 _ i k = _
    by_cases e : i = q
    · rw [e, up2_k hk]
    · rw [up2_i e]
theorem cosL_row (v : VV) (i : Nat) {k : Nat} (hk : k ≠ 15) : ∀ n, (cosL v n).2.1 i k = v.2.1 i k := by
  intro n
  induction n with
  | zero => rfl
  | succ n ih => exact (cos_row _ n i hk).trans ih
theorem zPI.lose {B T n h : Nat} {v : VV} (P : zPI B T v n h) {j : Nat} (hj : j < n) : zPI B T (rmvC (cosC v j) j n) (n - 1) h := by
  obtain ⟨h1, h2, ⟨w, w1, w2, w3⟩, h4, h5, h6⟩ := P
  refine ⟨by omega, rmvC_3 _ _ _, ⟨w, w1, w2, ?_⟩, ?_, fun i hi => ?_, fun q hq => ?_⟩
  · show va_up (cosC v j).1 3 (nI (n - 1)) 0 = _
    rw [va_up_ne _ _ (by omega), cosC_1]; exact w3
  · show va_up (cosC v j).1 3 (nI (n - 1)) 2 = _
    rw [va_up_ne _ _ (by omega), cosC_1]; exact h4
  · show zGA h ((cosC v j).2.1 i) ∧ zPA T h ((cosC v j).2.1 i)
    exact ⟨(h5 i hi).1.cg (fun k hk => cos_row v j i (by omega)), (h5 i hi).2.cg (fun k _ hk => cos_row v j i (by omega))⟩
  · show zRA B h (rotN j n (cosC v j).2.2 q)
    rw [rot_lo _ (by omega), cosC_2]
    exact h6 _ (by split <;> omega)
theorem twi_o (v : VV) (j n : Nat) {q : Nat} (h : q ≠ n) : (twiC v j n).2.2 q = v.2.2 q := by
  unfold twiC
  dsimp only
  rw [up2_i h, up2_i h, up2_i h, up2_i h, up2_i h, up2_i h]
theorem twi_k (v : VV) {j n : Nat} (h : j ≠ n) {k : Nat} (hk : k < 4) : (twiC v j n).2.2 n k = v.2.2 j k := by
  unfold twiC
  dsimp only
  rw [up2_k (by omega), up2_k (by omega)]
  rcases (by omega : k = 0 ∨ k = 1 ∨ k = 2 ∨ k = 3) with rfl | rfl | rfl | rfl
  · rw [up2_k (by omega), up2_k (by omega), up2_k (by omega), up2_s]
  · rw [up2_k (by omega), up2_k (by omega), up2_s, up2_i h]
  · rw [up2_k (by omega), up2_s, up2_i h, up2_i h]
  · rw [up2_s, up2_i h, up2_i h, up2_i h]
theorem twi_4 (v : VV) {j n : Nat} (h : j ≠ n) : (twiC v j n).2.2 n 4 = v.2.2 j 4 + 1 := by
  unfold twiC
  dsimp only
  rw [up2_s, up2_s, up2_i h, up2_i h, up2_i h, up2_i h]
theorem zPI.twice {B T n h : Nat} {v : VV} (P : zPI B T v n h) (hn : n < 20) {j : Nat} (hj : j < n) : zPI (B + 1) T (twiC v j n) (n + 1) h := by
  obtain ⟨h1, h2, ⟨w, w1, w2, w3⟩, h4, h5, h6⟩ := P
  refine ⟨by omega, ?_, ⟨w, w1, w2, ?_⟩, ?_, h5, fun q hq => ?_⟩
  · show va_up v.1 3 (nI n + 1) 3 = _
    rw [va_up_self]; exact nI_1 n
  · show va_up v.1 3 (nI n + 1) 0 = _
    rw [va_up_ne _ _ (by omega)]; exact w3
  · show va_up v.1 3 (nI n + 1) 2 = _
    rw [va_up_ne _ _ (by omega)]; exact h4
  · by_cases e : q = n
    · subst e
      obtain ⟨a0, a1, a2, a3, ⟨d, d1, d2, d3⟩⟩ := h6 j hj
      have hjn : j ≠ q := by omega
      exact ⟨by rw [twi_k v hjn (by omega)]; exact a0, by rw [twi_k v hjn (by omega)]; exact a1, by rw [twi_k v hjn (by omega)]; exact a2, by rw [twi_k v hjn (by omega)]; exact a3, d + 1, by omega, by omega, by rw [twi_4 v hjn, d3]; exact nI_1 d⟩
    · rw [twi_o v j n e]
      exact (h6 q (by omega)).mono (Nat.le_succ B) (Nat.le_refl h)
theorem zPI.wheel {B T n h : Nat} {v : VV} (P : zPI B T v n h) {x : Nat} (x1 : 4 ≤ x) (x2 : x ≤ 60) : zPI B T (chgC v n (nI x)) 0 h := by
  obtain ⟨h1, h2, -, h4, h5, h6⟩ := P
  refine ⟨by omega, ?_, ⟨x, x1, x2, va_up_self (va_up (cosL v n).1 3 (nI 0)) 0 (nI x)⟩, ?_, fun i hi => ?_, fun q hq => absurd hq (Nat.not_lt_zero q)⟩
  · show va_up (va_up (cosL v n).1 3 (nI 0)) 0 (nI x) 3 = _
    rw [va_up_ne _ _ (by omega), va_up_self]
  · show va_up (va_up (cosL v n).1 3 (nI 0)) 0 (nI x) 2 = _
    rw [va_up_ne _ _ (by omega), va_up_ne _ _ (by omega), cosL_1]; exact h4
  · show zGA h ((cosL v n).2.1 i) ∧ zPA T h ((cosL v n).2.1 i)
    exact ⟨(h5 i hi).1.cg (fun k hk => cosL_row v i (by omega) n), (h5 i hi).2.cg (fun k _ hk => cosL_row v i (by omega) n)⟩
theorem zPI.guess {B T n h : Nat} {v : VV} (P : zPI B T v n h) (x : Int32) : zPI B T (vW v 1 x) n h := by
  obtain ⟨h1, h2, ⟨w, w1, w2, w3⟩, h4, h5, h6⟩ := P
  refine ⟨h1, ?_, ⟨w, w1, w2, ?_⟩, ?_, h5, h6⟩
  · show va_up v.1 1 x 3 = _
    rw [va_up_ne _ _ (by omega)]; exact h2
  · show va_up v.1 1 x 0 = _
    rw [va_up_ne _ _ (by omega)]; exact w3
  · show va_up v.1 1 x 2 = _
    rw [va_up_ne _ _ (by omega)]; exact h4
theorem gau_o (v : VV) (i : Nat) (a b d w : Int32) {j : Nat} (h : j ≠ i) : (gauV v i a b d w).2.1 j = v.2.1 j := by
  unfold gauV
  dsimp only
  rw [up2_i h, up2_i h, up2_i h, up2_i h]
theorem gau_k (v : VV) (i : Nat) (a b d w : Int32) {k : Nat} (h : 4 ≤ k) : (gauV v i a b d w).2.1 i k = v.2.1 i k := by
  unfold gauV
  dsimp only
  rw [up2_k (by omega), up2_k (by omega), up2_k (by omega), up2_k (by omega)]
theorem gau_0 (v : VV) (i : Nat) (a b d w : Int32) : (gauV v i a b d w).2.1 i 0 = a := by
  unfold gauV
  dsimp only
  rw [up2_k (by omega), up2_k (by omega), up2_k (by omega), up2_s]
theorem gau_1 (v : VV) (i : Nat) (a b d w : Int32) : (gauV v i a b d w).2.1 i 1 = b := by
  unfold gauV
  dsimp only
  rw [up2_k (by omega), up2_k (by omega), up2_s]
theorem gau_2 (v : VV) (i : Nat) (a b d w : Int32) : (gauV v i a b d w).2.1 i 2 = d := by
  unfold gauV
  dsimp only
  rw [up2_k (by omega), up2_s]
theorem gau_3 (v : VV) (i : Nat) (a b d w : Int32) : (gauV v i a b d w).2.1 i 3 = w := by
  unfold gauV
  dsimp only
  rw [up2_s]
theorem zPI.gauge {B T n h : Nat} {v : VV} (P : zPI B T v n h) {i : Nat} (hi : i < 6) {a b d : Int32} {w : Nat} (a1 : 1 ≤ a.toInt ∧ a.toInt ≤ 9) (b1 : 1 ≤ b.toInt ∧ b.toInt ≤ 50) (d1 : 0 ≤ d.toInt ∧ d.toInt ≤ 200) (w1 : w ≤ 9) : zPI B T (gauV v i a b d (nI w)) n h := by
  obtain ⟨h1, h2, h3, h4, h5, h6⟩ := P
  refine ⟨h1, h2, h3, h4, fun j hj => ?_, h6⟩
  by_cases e : j = i
  · subst e
    refine ⟨⟨by rw [gau_0]; exact a1, by rw [gau_1]; exact b1, by rw [gau_2]; exact d1, ⟨w, w1, gau_3 _ _ _ _ _ _⟩, ?_⟩, (h5 j hj).2.cg (fun k hk _ => gau_k _ _ _ _ _ _ (by omega))⟩
    rw [gau_k _ _ _ _ _ _ (by omega), gau_k _ _ _ _ _ _ (by omega), gau_k _ _ _ _ _ _ (by omega), gau_k _ _ _ _ _ _ (by omega)]
    exact (h5 j hj).1.2.2.2.2
  · rw [gau_o _ _ _ _ _ _ e]
    exact h5 j hj
