/-! class and model beside each other: what changes the valley -/
theorem Rel.wp {B : Nat} {v : VV} {σ : Nat → Int32} {n h : Nat} (R : Rel B v σ n h) : RG v σ ∧ TI σ n := ⟨R.1, R.2.1⟩
theorem com_skip : ∀ (u e k : Nat) (σ : Nat → Int32), (∀ r, k ≤ r → r < k + u → ¬ σ (106 + 6 * r + 3) ≤ σ 104) → comC (u + e) k σ = comC e (k + u) σ := by
  intro u
  induction u with
  | zero => intro e k σ _; rw [Nat.zero_add]; rfl
  | succ u ih =>
    intro e k σ h
    rw [show u + 1 + e = (u + e) + 1 by omega]
    show (if _ then _ else _) = _
    rw [if_neg (h k (by omega) (by omega)), ih e (k + 1) σ (fun r h1 h2 => h r (by omega) (by omega)), show k + 1 + u = k + (u + 1) by omega]
theorem com_one {σ : Nat → Int32} {k : Nat} : comC 1 k σ = if σ (106 + 6 * k + 3) ≤ σ 104 then drM k (k + 1) (telC σ (σ (106 + 6 * k)).toNatClampNeg (σ (106 + 6 * k + 1)) (σ (106 + 6 * k + 2)) (σ (106 + 6 * k + 4)) (σ (106 + 6 * k + 5))) else σ := rfl
theorem snd_lo {σ : Nat → Int32} {i n q : Nat} (hq : q < 105) : sndC σ i n q = σ q := by
  unfold sndC
  try dsimp only
  rw [va_up_ne _ _ (by omega), va_up_ne _ _ (by omega), va_up_ne _ _ (by omega), va_up_ne _ _ (by omega), va_up_ne _ _ (by omega), va_up_ne _ _ (by omega), va_up_ne _ _ (by omega)]
theorem snd_row {σ : Nat → Int32} {i n r j : Nat} (hr : r < n) (hj : j < 6) : sndC σ i n (106 + 6 * r + j) = σ (106 + 6 * r + j) := by
  unfold sndC
  try dsimp only
  rw [va_up_ne _ _ (by omega), va_up_ne _ _ (by omega), va_up_ne _ _ (by omega), va_up_ne _ _ (by omega), va_up_ne _ _ (by omega), va_up_ne _ _ (by omega), va_up_ne _ _ (by omega)]
theorem snd_n0 {σ : Nat → Int32} {i n : Nat} : sndC σ i n (106 + 6 * n) = nI i := by
  unfold sndC
  try dsimp only
  rw [va_up_ne _ _ (by omega), va_up_ne _ _ (by omega), va_up_ne _ _ (by omega), va_up_ne _ _ (by omega), va_up_ne _ _ (by omega), va_up_ne _ _ (by omega), va_up_self]
theorem snd_n1 {σ : Nat → Int32} {i n : Nat} : sndC σ i n (106 + 6 * n + 1) = whM σ i := by
  unfold sndC
  try dsimp only
  rw [va_up_ne _ _ (by omega), va_up_ne _ _ (by omega), va_up_ne _ _ (by omega), va_up_ne _ _ (by omega), va_up_ne _ _ (by omega), va_up_self]
theorem snd_n2 {σ : Nat → Int32} {i n : Nat} : sndC σ i n (106 + 6 * n + 2) = σ 104 := by
  unfold sndC
  try dsimp only
  rw [va_up_ne _ _ (by omega), va_up_ne _ _ (by omega), va_up_ne _ _ (by omega), va_up_ne _ _ (by omega), va_up_self, va_up_ne _ _ (by omega), va_up_ne _ _ (by omega)]
theorem snd_n3 {σ : Nat → Int32} {i n : Nat} (hi : i < 6) : sndC σ i n (106 + 6 * n + 3) = σ 104 + σ (17 * i + 3) := by
  unfold sndC
  try dsimp only
  rw [va_up_ne _ _ (by omega), va_up_ne _ _ (by omega), va_up_ne _ _ (by omega), va_up_self, va_up_ne _ _ (by omega), va_up_ne _ _ (by omega), va_up_ne _ _ (by omega), va_up_ne _ _ (by omega), va_up_ne _ _ (by omega), va_up_ne _ _ (by omega)]
theorem snd_n4 {σ : Nat → Int32} {i n : Nat} (hi : i < 6) : sndC σ i n (106 + 6 * n + 4) = σ (17 * i + 5) := by
  unfold sndC
  try dsimp only
  rw [va_up_ne _ _ (by omega), va_up_ne _ _ (by omega), va_up_self, va_up_ne _ _ (by omega), va_up_ne _ _ (by omega), va_up_ne _ _ (by omega), va_up_ne _ _ (by omega)]
theorem snd_n5 {σ : Nat → Int32} {i n : Nat} : sndC σ i n (106 + 6 * n + 5) = σ 6 := by
  unfold sndC
  try dsimp only
  rw [va_up_ne _ _ (by omega), va_up_self, va_up_ne _ _ (by omega), va_up_ne _ _ (by omega), va_up_ne _ _ (by omega), va_up_ne _ _ (by omega), va_up_ne _ _ (by omega)]
theorem se_row {v : VV} {i n r : Nat} (hr : r ≠ n) : (seR v i n).2.2 r = v.2.2 r := by
  unfold seR
  try dsimp only
  rw [up2_i hr, up2_i hr, up2_i hr, up2_i hr, up2_i hr]
theorem se_n {v : VV} {i n : Nat} : (seR v i n).2.2 n 0 = nI i ∧ (seR v i n).2.2 n 1 = v.2.1 i 5 ∧ (seR v i n).2.2 n 2 = v.1 2 ∧ (seR v i n).2.2 n 3 = v.2.1 0 6 ∧ (seR v i n).2.2 n 4 = v.2.1 i 3 := by
  unfold seR
  try dsimp only
  refine ⟨?_, ?_, ?_, ?_, up2_s⟩
  · rw [up2_k (by omega), up2_k (by omega), up2_k (by omega), up2_k (by omega), up2_s]
  · rw [up2_k (by omega), up2_k (by omega), up2_k (by omega), up2_s]
  · rw [up2_k (by omega), up2_k (by omega), up2_s]
    exact va_up_ne _ _ (by decide)
  · rw [up2_k (by omega), up2_s]
theorem RG.snd {v : VV} {σ : Nat → Int32} (G : RG v σ) (i n : Nat) : RG (seR v i n) (sndC σ i n) := by
  obtain ⟨h0, h1, h2, hG, hW⟩ := G
  refine ⟨(va_up_ne v.1 (nI n + 1) (show (0 : Nat) ≠ 3 by decide)).trans (h0.trans (snd_lo (by omega)).symm), (va_up_ne v.1 (nI n + 1) (show (1 : Nat) ≠ 3 by decide)).trans (h1.trans (snd_lo (by omega)).symm), (va_up_ne v.1 (nI n + 1) (show (2 : Nat) ≠ 3 by decide)).trans (h2.trans (snd_lo (by omega)).symm), fun j hj k hk => ?_, fun j hj => ?_⟩
  · have := gm_le hk
    rw [snd_lo (by omega)]
    exact hG j hj k hk
  · unfold remW
    rw [snd_lo (by omega), snd_lo (by omega), snd_lo (by omega)]
    exact hW j hj
theorem BD.snd {σ : Nat → Int32} {h : Nat} (b : BD σ h) (i n : Nat) : BD (sndC σ i n) h := b.cg (snd_lo (by omega)) (snd_lo (by omega)) (fun j hj => snd_lo (by omega))
theorem BD.c1 {σ : Nat → Int32} {h : Nat} (b : BD σ h) : 0 ≤ (σ (17 * 0 + 6)).toInt := b.2.2.1
theorem BD.c2 {σ : Nat → Int32} {h : Nat} (b : BD σ h) (hh : h ≤ 18000) : (σ (17 * 0 + 6)).toInt ≤ 33000000 := by
  have := b.2.2.2.1
  show (σ 6).toInt ≤ 33000000
  omega
theorem Rel.send {B : Nat} {v : VV} {σ : Nat → Int32} {n h : Nat} (R : Rel B v σ n h) (hB : 9 ≤ B) (hB2 : B < 20000) (hh : h ≤ 18000) (hn : n < 20) {i : Nat} (hi : i < 6) :
    (∃ n', Rel B (senC v i n) (comC (n + 1) 0 (sndC σ i n)) n' h) ∧ (senC v i n).2.1 i 5 = σ (17 * i + 5) ∧ (senC v i n).1 0 = σ 102 := by
  obtain ⟨G, T, hn20, hv, hs, h4, hb, hr⟩ := R
  obtain ⟨T2, e105⟩ := sndC_TI T hi hn hb.c1 (hb.c2 hh)
  have G2 := G.snd i n
  have b2 := hb.snd i n
  obtain ⟨s0, s1, s2, s3, s4⟩ := se_n (v := v) (i := i) (n := n)
  obtain ⟨w, hw, ew⟩ := hb.2.2.2.2 i hi
  have k3 : v.2.1 i 3 = nI w := (G.g hi 3 (by omega)).trans ew
  have k5 : v.2.1 i 5 = σ (17 * i + 5) := G.g hi 5 (by omega)
  have k6 : v.2.1 0 6 = σ 6 := G.g (i := 0) (by omega) 6 (by omega)
  have F : RF (seR v i n) (sndC σ i n) n := by
    refine ⟨s0.trans snd_n0.symm, by rw [s1, snd_n4 hi, k5], by rw [s2, snd_n2, G.2.2.1], by rw [s3, snd_n5, k6], ?_⟩
    rw [snd_n1, snd_n4 hi]
    unfold whM remW
    rw [snd_lo (by omega)]
  have rows : ∀ r, r < n → RF (seR v i n) (sndC σ i n) r ∧ RT B h (seR v i n) (sndC σ i n) r := fun r hrn =>
    ⟨(hr r hrn).1.row (se_row (by omega)) (fun j hj => snd_row hrn hj) (snd_lo (by omega)), (hr r hrn).2.row (se_row (by omega)) (snd_row hrn (by omega))⟩
  have e104 : sndC σ i n 104 = nI h := (snd_lo (by omega)).trans h4
  have hsk : comC (n + 1) 0 (sndC σ i n) = comC 1 n (sndC σ i n) := by
    have := com_skip n 1 0 (sndC σ i n) (fun r _ hrn => by
      obtain ⟨F', d, d1, d2, d3, d4⟩ := rows r (by omega)
      rw [d4, e104]
      exact nI_ge (by omega) (by omega))
    rw [this, Nat.zero_add]
  have e3 : sndC σ i n (106 + 6 * n + 3) = nI (h + w) := by rw [snd_n3 hi, h4, ew, nI_add]
  have g5 : (seR v i n).2.1 i 5 = σ (17 * i + 5) := k5
  have g0 : (seR v i n).1 0 = σ 102 := G2.1.trans (snd_lo (by omega))
  rw [hsk]
  unfold senC
  rw [com_one, s4, k3]
  by_cases hz : w = 0
  · rw [if_pos (by rw [hz]; rfl), if_pos (by rw [e3, e104]; exact nI_le (by omega) (by omega)), snd_n0, nI_clamp (by omega)]
    obtain ⟨g1, g2, g3⟩ := G2.gone T2 (n := n + 1) (k := n) (by omega) (by omega) (w := seR v i n) rfl rfl F hi snd_n0
    have w102 : drM n (n + 1) (telC (sndC σ i n) i (sndC σ i n (106 + 6 * n + 1)) (sndC σ i n (106 + 6 * n + 2)) (sndC σ i n (106 + 6 * n + 4)) (sndC σ i n (106 + 6 * n + 5))) 102 = sndC σ i n 102 := (drM_o (by omega)).trans (telC_o hi (by omega))
    refine ⟨⟨n, g1, g2, hn20, rmvC_3 _ _ _, drM_105, (drM_o (by omega)).trans ((telC_o hi (by omega)).trans e104), (b2.tel hi).drm, fun r hrn => ?_⟩, ?_, ?_⟩
    · obtain ⟨p1, p2⟩ := g3 r (by omega)
      rw [if_pos hrn] at p1 p2
      exact ⟨(rows r hrn).1.row p1 p2 w102, (rows r hrn).2.row p1 (p2 3 (by omega))⟩
    · have := g1.g hi 5 (by omega)
      refine this.trans ((drM_o (show 17 * i + gm 5 < 105 by have := gm_le (k := 5) (by omega); omega)).trans ((telC_lo (fun k _ _ => ?_)).trans ((snd_lo ?_).trans rfl)))
      · show 17 * i + 5 ≠ _
        omega
      · show 17 * i + 5 < 105
        omega
    · exact g1.1.trans (w102.trans (snd_lo (by omega)))
  · rw [if_neg (nI_ne0 (Nat.pos_of_ne_zero hz) (by omega)), if_neg (by rw [e3, e104]; exact nI_ge (by omega) (by omega))]
    refine ⟨⟨n + 1, G2, T2, by omega, seR_3 v i n, e105, e104, b2, fun r hrn => ?_⟩, g5, g0⟩
    by_cases hq : r = n
    · subst hq
      exact ⟨F, w, by omega, by omega, s4.trans k3, e3⟩
    · exact rows r (by omega)
/-! twice -/
theorem twL_o {j n q : Nat} {σ : Nat → Int32} {z : Nat} (h : ∀ k, k < q → z ≠ 106 + 6 * n + k) : twL j n q σ z = σ z := by
  induction q with
  | zero => rfl
  | succ q ih => exact (va_up_ne _ _ (h q (by omega))).trans (ih (fun k hk => h k (by omega)))
theorem twL_n {j n : Nat} {σ : Nat → Int32} (hj : j < n) : ∀ q, q ≤ 6 → ∀ k, k < q → twL j n q σ (106 + 6 * n + k) = σ (106 + 6 * j + k) + if k = 3 then nI 1 else nI 0 := by
  intro q
  induction q with
  | zero => intro _ k hk; exact absurd hk (Nat.not_lt_zero k)
  | succ q ih =>
    intro hq k hk
    show va_up _ _ _ _ = _
    by_cases e : k = q
    · rw [e, va_up_self, twL_o (fun k hk => by omega)]
    · rw [va_up_ne _ _ (by omega)]
      exact ih (by omega) k (by omega)
theorem twi_n {j n : Nat} {σ : Nat → Int32} (hj : j < n) {k : Nat} (hk : k < 6) : twiM j n σ (106 + 6 * n + k) = σ (106 + 6 * j + k) + if k = 3 then nI 1 else nI 0 := (va_up_ne _ _ (by omega)).trans (twL_n hj 6 (by omega) k hk)
theorem twi_o {j n z : Nat} {σ : Nat → Int32} (h : z < 105 ∨ (106 ≤ z ∧ z < 106 + 6 * n)) : twiM j n σ z = σ z := (va_up_ne _ _ (by omega)).trans (twL_o (fun k hk => by omega))
theorem twV_row {v : VV} {j n r : Nat} (hr : r ≠ n) : (twiC v j n).2.2 r = v.2.2 r := by
  unfold twiC
  try dsimp only
  rw [up2_i hr, up2_i hr, up2_i hr, up2_i hr, up2_i hr, up2_i hr]
theorem twV_n {v : VV} {j n : Nat} (hj : j ≠ n) : (∀ k, k < 4 → (twiC v j n).2.2 n k = v.2.2 j k) ∧ (twiC v j n).2.2 n 4 = v.2.2 j 4 + 1 := by
  unfold twiC
  try dsimp only
  refine ⟨fun k hk => ?_, ?_⟩
  · rw [up2_k (by omega), up2_k (by omega)]
    rcases (by omega : k = 0 ∨ k = 1 ∨ k = 2 ∨ k = 3) with rfl | rfl | rfl | rfl
    · rw [up2_k (by omega), up2_k (by omega), up2_k (by omega), up2_s]
    · rw [up2_k (by omega), up2_k (by omega), up2_s, up2_i hj]
    · rw [up2_k (by omega), up2_s, up2_i hj, up2_i hj]
    · rw [up2_s, up2_i hj, up2_i hj, up2_i hj]
  · rw [up2_s, up2_s, up2_i hj, up2_i hj, up2_i hj, up2_i hj]
theorem twi_a {j n : Nat} {σ : Nat → Int32} (hj : j < n) {k : Nat} (hk : k < 6) (h3 : k ≠ 3) : twiM j n σ (106 + 6 * n + k) = σ (106 + 6 * j + k) := by
  rw [twi_n hj hk, if_neg h3]
  exact Int32.add_zero _
theorem TI.twi {σ : Nat → Int32} {n j : Nat} (T : TI σ n) (hj : j < n) : TI (twiM j n σ) (n + 1) := by
  obtain ⟨a1, a2, a3, a4, a5, a6, a7, a8⟩ := T
  have e : ∀ q, q < 105 → twiM j n σ q = σ q := fun q hq => twi_o (by omega)
  have ro : ∀ r, r < n + 1 → ∀ k, k < 6 → k ≠ 3 → twiM j n σ (106 + 6 * r + k) = σ (106 + 6 * (if r = n then j else r) + k) := fun r hr k hk h3 => by
    by_cases h : r = n
    · rw [if_pos h, h]; exact twi_a hj hk h3
    · rw [if_neg h]; exact twi_o (by omega)
  have rn : ∀ r, r < n + 1 → (if r = n then j else r) < n := fun r hr => by split <;> omega
  refine ⟨by rw [e _ (by omega)]; exact a1, fun i hi => by rw [e _ (by omega)]; exact a2 i hi, fun i hi => by rw [e _ (by omega)]; exact a3 i hi, fun i hi => by rw [e _ (by omega)]; exact a4 i hi, fun i hi => by rw [e _ (by omega)]; exact a5 i hi, fun r hr => ?_, fun r hr => ?_, fun r hr => ?_⟩
  · rw [show twiM j n σ (106 + 6 * r) = _ from ro r hr 0 (by omega) (by omega)]
    exact a6 _ (rn r hr)
  · rw [ro r hr 1 (by omega) (by omega)]
    exact a7 _ (rn r hr)
  · rw [ro r hr 5 (by omega) (by omega)]
    exact a8 _ (rn r hr)
theorem RG.lo {v w : VV} {σ τ : Nat → Int32} (G : RG v σ) (h0 : w.1 0 = v.1 0) (h1 : w.1 1 = v.1 1) (h2 : w.1 2 = v.1 2) (hg : w.2.1 = v.2.1) (e : ∀ q, q < 105 → τ q = σ q) : RG w τ := by
  obtain ⟨g0, g1, g2, hG, hW⟩ := G
  refine ⟨h0.trans (g0.trans (e _ (by omega)).symm), h1.trans (g1.trans (e _ (by omega)).symm), h2.trans (g2.trans (e _ (by omega)).symm), fun j hj k hk => ?_, fun j hj => ?_⟩
  · have := gm_le hk
    rw [hg, e _ (by omega)]
    exact hG j hj k hk
  · unfold remW
    rw [e _ (by omega), e _ (by omega), e _ (by omega)]
    exact hW j hj
theorem BD.lo {σ τ : Nat → Int32} {h : Nat} (b : BD σ h) (e : ∀ q, q < 105 → τ q = σ q) : BD τ h := b.cg (e _ (by omega)) (e _ (by omega)) (fun i hi => e _ (by omega))
theorem Rel.twice {B : Nat} {v : VV} {σ : Nat → Int32} {n h : Nat} (R : Rel B v σ n h) (hn : n < 20) {j : Nat} (hj : j < n) : Rel (B + 1) (twiC v j n) (twiM j n σ) (n + 1) h := by
  obtain ⟨G, T, hn20, hv, hs, h4, hb, hr⟩ := R
  have e : ∀ q, q < 105 → twiM j n σ q = σ q := fun q hq => twi_o (by omega)
  have w102 := e 102 (by omega)
  refine ⟨G.lo (va_up_ne (k := 3) (j := 0) v.1 (nI n + 1) (by decide)) (va_up_ne (k := 3) (j := 1) v.1 (nI n + 1) (by decide)) (va_up_ne (k := 3) (j := 2) v.1 (nI n + 1) (by decide)) rfl e, T.twi hj, by omega, (va_up_self v.1 3 (nI n + 1)).trans (nI_1 n), (va_up_self _ _ _).trans (nI_1 n), (e _ (by omega)).trans h4, hb.lo e, fun r hrn => ?_⟩
  by_cases hq : r = n
  · subst hq
    obtain ⟨⟨f0, f1, f2, f3, f4⟩, d, d1, d2, d3, d4⟩ := hr j hj
    obtain ⟨p1, p2⟩ := twV_n (v := v) (j := j) (n := r) (by omega)
    have z0 : twiM j r σ (106 + 6 * r) = σ (106 + 6 * j) := twi_a hj (k := 0) (by omega) (by omega)
    refine ⟨⟨(p1 0 (by omega)).trans (f0.trans z0.symm), by rw [p1 1 (by omega), twi_a hj (by omega) (by omega)]; exact f1, by rw [p1 2 (by omega), twi_a hj (by omega) (by omega)]; exact f2, by rw [p1 3 (by omega), twi_a hj (by omega) (by omega)]; exact f3, ?_⟩, d + 1, by omega, by omega, by rw [p2, d3]; exact nI_1 d, ?_⟩
    · unfold remW
      rw [twi_a hj (by omega) (by omega), twi_a hj (by omega) (by omega), w102]
      exact f4
    · rw [twi_n hj (by omega), if_pos rfl, d4, nI_add]
      congr 1
  · have hh := hr r (by omega)
    obtain ⟨d, d1, d2, d3, d4⟩ := hh.2
    exact ⟨hh.1.row (twV_row hq) (fun k hk => twi_o (by omega)) w102, d, d1, by omega, by rw [twV_row hq]; exact d3, by rw [twi_o (by omega)]; exact d4⟩
/-! lose -/
theorem RG.cos {v : VV} {σ : Nat → Int32} (G : RG v σ) {i j : Nat} (hi : i < 6) (e0 : v.2.2 j 0 = nI i) : RG (cosC v j) (va_up σ (17 * i + 16) (σ (17 * i + 16) + 1)) := by
  unfold cosC
  rw [e0, gxn_in hi (by decide)]
  exact G.up hi 15 (by omega) (by omega) rfl (congrArg (· + 1) (G.g hi 15 (by omega)))
theorem Rel.lose {B : Nat} {v : VV} {σ : Nat → Int32} {n h : Nat} (R : Rel B v σ n h) {j : Nat} (hj : j < n) : Rel B (rmvC (cosC v j) j n) (drM j n (losR σ j)) (n - 1) h := by
  obtain ⟨G, T, hn20, hv, hs, h4, hb, hr⟩ := R
  obtain ⟨i, hi, ei⟩ := T.2.2.2.2.2.1 j hj
  have e0 : v.2.2 j 0 = nI i := (hr j hj).1.1.trans ei
  have eL : losR σ j = va_up σ (17 * i + 16) (σ (17 * i + 16) + 1) := by
    unfold losR
    rw [ei, nI_clamp (by omega)]
  rw [eL]
  have lo : ∀ q, (∀ i, i < 6 → q ≠ 17 * i + 16) → va_up σ (17 * i + 16) (σ (17 * i + 16) + 1) q = σ q := fun q hq => va_up_ne _ _ (hq i hi)
  refine ⟨(G.cos hi e0).drm j n, (T.up hi (k := 16) (by omega) (by omega) (by omega) (by omega) (by omega) _).drM hj, by omega, rmvC_3 _ _ _, drM_105, (drM_o (by omega)).trans ((lo _ (by omega)).trans h4), (hb.cg (lo _ (by omega)) (lo _ (by omega)) (fun k hk => lo _ (by omega))).drm, fun r hrn => ?_⟩
  have p1 : (rmvC (cosC v j) j n).2.2 r = v.2.2 (if r < j then r else r + 1) := by
    show rotN j n (cosC v j).2.2 r = _
    rw [cosC_2, rot_lo _ (by omega)]
  have p2 : ∀ k, k < 6 → drM j n (va_up σ (17 * i + 16) (σ (17 * i + 16) + 1)) (106 + 6 * r + k) = σ (106 + 6 * (if r < j then r else r + 1) + k) := fun k hk => (drM_row (by omega) hk).trans (lo _ (by omega))
  have hq : (if r < j then r else r + 1) < n := by split <;> omega
  exact ⟨(hr _ hq).1.row p1 p2 ((drM_o (by omega)).trans (lo _ (by omega))), (hr _ hq).2.row p1 (p2 3 (by omega))⟩
/-! gauge, guess -/
theorem Rel.gau {B : Nat} {v : VV} {σ : Nat → Int32} {n h : Nat} (R : Rel B v σ n h) {i : Nat} (hi : i < 6) {a b d w : Int32} (ha : ¬ winC a 1 9 = 0) (hb' : ¬ winC b 1 50 = 0) (hd : ¬ winC d 0 200 = 0) (hw : ¬ winC w 0 9 = 0) : Rel B (gauV v i a b d w) (gauM σ i a b d w) n h := by
  obtain ⟨G, T, hn20, hv, hs, h4, hbd, hr⟩ := R
  have bd : ∀ {x : Int32} {lo hi : Int32}, ¬ winC x lo hi = 0 → lo.toInt ≤ x.toInt ∧ x.toInt ≤ hi.toInt := fun h => ⟨ti_le.mp (win_of h).1, ti_le.mp (win_of h).2⟩
  have a0 := bd ha
  have b0 := bd hb'
  have d0 := bd hd
  have e1 : (1 : Int32).toInt = 1 := rfl
  have e9 : (9 : Int32).toInt = 9 := rfl
  have e50 : (50 : Int32).toInt = 50 := rfl
  have e0 : (0 : Int32).toInt = 0 := rfl
  have e200 : (200 : Int32).toInt = 200 := rfl
  rw [e1, e9] at a0
  rw [e1, e50] at b0
  rw [e0, e200] at d0
  obtain ⟨z, z1, z2, z3⟩ := win_ix (lo := 0) (up := 9) (by omega) (by omega) hw
  have o : ∀ q, (∀ k, k < 4 → q ≠ 17 * i + k) → gauM σ i a b d w q = σ q := fun q hq => by
    unfold gauM
    rw [va_up_ne _ _ (hq 3 (by omega)), va_up_ne _ _ (hq 2 (by omega)), va_up_ne _ _ (hq 1 (by omega)), va_up_ne _ _ (hq 0 (by omega))]
  have o0 : gauM σ i a b d w (17 * i) = a := by
    unfold gauM
    rw [va_up_ne _ _ (by omega), va_up_ne _ _ (by omega), va_up_ne _ _ (by omega)]
    exact va_up_self _ _ _
  have o1 : gauM σ i a b d w (17 * i + 1) = b := by
    unfold gauM
    rw [va_up_ne _ _ (by omega), va_up_ne _ _ (by omega), va_up_self]
  have o2 : gauM σ i a b d w (17 * i + 2) = d := by
    unfold gauM
    rw [va_up_ne _ _ (by omega), va_up_self]
  have o3 : gauM σ i a b d w (17 * i + 3) = w := by
    unfold gauM
    rw [va_up_self]
  obtain ⟨a1, a2, a3, a4, a5, a6, a7, a8⟩ := T
  obtain ⟨b1, b2, b3, b4, b5⟩ := hbd
  refine ⟨(((G.up hi 0 (by omega) (by omega) rfl rfl).up hi 1 (by omega) (by omega) rfl rfl).up hi 2 (by omega) (by omega) rfl rfl).up hi 3 (by omega) (by omega) rfl rfl, ⟨by rw [o _ (by omega)]; exact a1, fun j hj => ?_, fun j hj => ?_, fun j hj => by rw [o _ (by omega)]; exact a4 j hj, fun j hj => by rw [o _ (by omega)]; exact a5 j hj, fun r hrn => by rw [o _ (by omega)]; exact a6 r hrn, fun r hrn => by rw [o _ (by omega)]; exact a7 r hrn, fun r hrn => by rw [o _ (by omega)]; exact a8 r hrn⟩, hn20, hv, (o _ (by omega)).trans hs, (o _ (by omega)).trans h4, ⟨?_, ?_, by rw [o _ (by omega)]; exact b3, by rw [o _ (by omega)]; exact b4, fun j hj => ?_⟩, fun r hrn => ⟨(hr r hrn).1.row rfl (fun k hk => o _ (by omega)) (o _ (by omega)), (hr r hrn).2.row rfl (o _ (by omega))⟩⟩
  · by_cases hji : j = i
    · rw [hji, o0]; exact a0
    · rw [o _ (by omega)]; exact a2 j hj
  · by_cases hji : j = i
    · rw [hji, o1]; exact b0
    · rw [o _ (by omega)]; exact a3 j hj
  · by_cases hji : i = 0
    · have := o2
      rw [hji] at this ⊢
      rw [show gauM σ 0 a b d w 2 = d from this]
      exact d0.1
    · rw [o _ (by omega)]; exact b1
  · by_cases hji : i = 0
    · have := o2
      rw [hji] at this ⊢
      rw [show gauM σ 0 a b d w 2 = d from this]
      exact d0.2
    · rw [o _ (by omega)]; exact b2
  · by_cases hji : j = i
    · rw [hji, o3]; exact ⟨z, z2, z3⟩
    · rw [o _ (by omega)]; exact b5 j hj
theorem Rel.gue {B : Nat} {v : VV} {σ : Nat → Int32} {n h : Nat} (R : Rel B v σ n h) (y : Int32) : Rel B (vW v 1 y) (va_up σ 103 y) n h := by
  obtain ⟨G, T, hn20, hv, hs, h4, hbd, hr⟩ := R
  have o : ∀ q, q ≠ 103 → va_up σ 103 y q = σ q := fun q hq => va_up_ne _ _ hq
  exact ⟨G.setW 1 (by omega) rfl rfl, T.up1 (by omega) y, hn20, (va_up_ne (k := 1) (j := 3) v.1 y (by decide)).trans hv, (o _ (by omega)).trans hs, (o _ (by omega)).trans h4, hbd.cg (o _ (by omega)) (o _ (by omega)) (fun j hj => o _ (by omega)), fun r hrn => ⟨(hr r hrn).1.row rfl (fun k hk => o _ (by omega)) (o _ (by omega)), (hr r hrn).2.row rfl (o _ (by omega))⟩⟩
