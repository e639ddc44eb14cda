/-! what if: class and model -/
theorem catT_f (v : VV) (i : Nat) (f t : Int32) : (catT v i f t).1 = v.1 ∧ (∀ k, k ≠ 4 → k ≠ 5 → k ≠ 6 → k ≠ 7 → (catT v i f t).2.1 i k = v.2.1 i k) ∧ (catT v i f t).2.1 i 4 = v.2.1 i 4 + f - t * v.2.1 i 1 ∧ (catT v i f t).2.1 i 5 = v.2.1 i 5 + t := by
  unfold Jvm.Pilot.@@N@@.catT
  dsimp only
  refine ⟨rfl, fun k h4 h5 h6 h7 => ?_, ?_, ?_⟩
  · rw [up2_k h5, up2_k h7, up2_k h4, up2_k h4, up2_k h6]
  · rw [up2_k (by decide), up2_k (by decide), up2_s, up2_s, up2_k (k' := 1) (by decide), up2_k (k' := 1) (by decide), up2_k (k' := 4) (by decide)]
  · rw [up2_s, up2_k (by decide), up2_k (by decide), up2_k (by decide), up2_k (by decide)]
theorem sub_mv (a t b : Int32) : a + t - b = a - b + t := by
  rw [Int32.sub_eq_add_neg, Int32.sub_eq_add_neg, Int32.add_assoc, Int32.add_comm t, ← Int32.add_assoc]
theorem unt_eq {σ : Nat → Int32} {i : Nat} {y : Int32} (hc : 0 < σ (17 * i + 1)) : ∀ (z o : Nat) (v : VV) (u d : Int32), v.1 0 = σ 102 → v.2.1 i 0 = σ (17 * i + 0) → v.2.1 i 1 = σ (17 * i + 1) → v.2.1 i 2 = σ (17 * i + 2) → v.2.1 i 4 = d → v.2.1 i 5 - v.2.1 i 10 = u → untL i y (z + 1) o v = unlM σ i (felM σ i y) z o u d := by
  intro z
  induction z with
  | zero =>
    intro o v u d h0 g0 g1 g2 g4 gu
    show (if v.1 0 ≤ v.2.1 i 5 - v.2.1 i 10 then nI o else (-1000006)) = if u < σ 102 then -1000006 else nI o
    rw [h0, gu]
    by_cases c : σ 102 ≤ u
    · rw [if_pos c, if_neg (Int32.not_lt.mpr c)]
    · rw [if_neg c, if_pos (Int32.not_le.mp c)]
  | succ z ih =>
    intro o v u d h0 g0 g1 g2 g4 gu
    show (if v.1 0 ≤ v.2.1 i 5 - v.2.1 i 10 then nI o else untL i y (z + 1) (o + 1) (catC v i y)) = if u < σ 102 then unlM σ i (felM σ i y) z (o + 1) (u + (d + felM σ i y) / σ (17 * i + 1)) (d + felM σ i y - (d + felM σ i y) / σ (17 * i + 1) * σ (17 * i + 1)) else nI o
    rw [h0, gu]
    by_cases c : σ 102 ≤ u
    · rw [if_pos c, if_neg (Int32.not_lt.mpr c)]
    · rw [if_neg c, if_pos (Int32.not_le.mp c)]
      have ef : fellC v i y = felM σ i y := by
        unfold fellC felM
        rw [g0, g2]
      have et : tipC v i y = (d + felM σ i y) / σ (17 * i + 1) := by
        unfold tipC
        rw [g1, g4, ef, if_pos hc]
      obtain ⟨k1, k2, k3, k4⟩ := catT_f v i (fellC v i y) (tipC v i y)
      refine ih (o + 1) (catC v i y) _ _ ?_ ?_ ?_ ?_ ?_ ?_
      · exact (congrFun k1 0).trans h0
      · exact (k2 0 (by decide) (by decide) (by decide) (by decide)).trans g0
      · exact (k2 1 (by decide) (by decide) (by decide) (by decide)).trans g1
      · exact (k2 2 (by decide) (by decide) (by decide) (by decide)).trans g2
      · refine k3.trans ?_
        rw [g4, g1, ef, et]
      · show (catT v i (fellC v i y) (tipC v i y)).2.1 i 5 - (catT v i (fellC v i y) (tipC v i y)).2.1 i 10 = _
        rw [k4, k2 10 (by decide) (by decide) (by decide) (by decide), sub_mv, gu, et]
section
variable {B : Nat} {v : VV} {σ : Nat → Int32} {ar : Nat → Nat → Int32} {ns : Nat → Int32} {n h : Nat}
theorem sim_until (R0 : Rel B v σ n h) (x y : Int32) : oUntil v x y = mUntil σ x y := by
  have G := R0.1
  rcases gxn_cases (n := 6) (by decide) x with ⟨e1, h1⟩ | ⟨i, hi, rfl, e1⟩
  · unfold oUntil mUntil
    rw [e1]
  · by_cases hb : winC y 0 99 = 0
    · unfold oUntil mUntil
      rw [e1]
      exact (if_pos hb).trans (if_pos hb).symm
    · rw [unt_e e1 hb, mUntil_y e1 hb]
      refine unt_eq (ti_pos (R0.2.1.2.2.1 i hi).1) 500 0 v _ _ G.1 (G.g hi 0 (by omega)) (G.g hi 1 (by omega)) (G.g hi 2 (by omega)) (G.g hi 4 (by omega)) ?_
      rw [show v.2.1 i 5 = σ (17 * i + 5) from G.g hi 5 (by omega), show v.2.1 i 10 = σ (17 * i + 11) from G.g hi 10 (by omega)]
      rfl
theorem tel_8 {i : Nat} {x hh t c : Int32} : telC σ i x hh t c (17 * i + 8) = if hh < σ (17 * i + 9) then σ (17 * i + 8) else if hh = σ (17 * i + 9) ∧ x = σ (17 * i + 10) ∧ 0 < σ (17 * i + 13) then σ (17 * i + 8) else σ (17 * i + 8) + tel3 σ i x c := by
  unfold telC telT
  dsimp only
  by_cases c1 : hh < σ (17 * i + 9)
  · rw [if_pos c1, if_pos c1, va_up_ne _ _ (by omega)]
  · rw [if_neg c1, if_neg c1]
    by_cases c2 : hh = σ (17 * i + 9) ∧ x = σ (17 * i + 10) ∧ 0 < σ (17 * i + 13)
    · rw [if_pos c2, if_pos c2, va_up_ne _ _ (by omega)]
    · rw [if_neg c2, if_neg c2, va_up_ne _ _ (by omega), va_up_ne _ _ (by omega), va_up_ne _ _ (by omega), va_up_ne _ _ (by omega), va_up_ne _ _ (by omega), va_up_self]
theorem tel_8w {i : Nat} {x hh t c y : Int32} : telC (va_up σ (17 * i + 3) y) i x hh t c (17 * i + 8) = telC σ i x hh t c (17 * i + 8) := by
  rw [tel_8, tel_8]
  unfold tel3 tel2 telE
  rw [va_up_ne (j := 17 * i + 9) _ _ (by omega), va_up_ne (j := 17 * i + 8) _ _ (by omega), va_up_ne (j := 17 * i + 10) _ _ (by omega), va_up_ne (j := 17 * i + 13) _ _ (by omega), va_up_ne (j := 103) _ _ (by omega), va_up_ne (j := 102) _ _ (by omega), va_up_ne (j := 17 * i + 12) _ _ (by omega), va_up_ne (j := 17 * i + 0) _ _ (by omega), va_up_ne (j := 17 * 0 + 0) _ _ (by omega), va_up_ne (j := 17 * i + 1) _ _ (by omega)]
theorem sim_ifSent (R0 : Rel B v σ n h) (x : Int32) : oIfSent v x = (mIfSent (σ, ar, ns) x).1 := by
  have G := R0.1
  have T := R0.2.1
  rcases gxn_cases (n := 6) (by decide) x with ⟨e1, h1⟩ | ⟨i, hi, rfl, e1⟩
  · rw [mIfSent_n e1]
    unfold oIfSent
    rw [e1]
  · rw [mIfSent_y e1]
    unfold oIfSent
    rw [e1]
    dsimp only
    obtain ⟨w, hw⟩ : ∃ w, w = vG (vW v 3 0) i 3 0 := ⟨_, rfl⟩
    have G1 : RG (vW v 3 0) σ := G.lo (va_up_ne (k := 3) (j := 0) v.1 0 (by decide)) (va_up_ne (k := 3) (j := 1) v.1 0 (by decide)) (va_up_ne (k := 3) (j := 2) v.1 0 (by decide)) rfl (fun _ _ => rfl)
    have Gw : RG w (va_up σ (17 * i + 3) 0) := by rw [hw]; exact G1.up hi 3 (by omega) (by omega) rfl rfl
    have Tw : TI (va_up σ (17 * i + 3) 0) n := T.up hi (by omega) (by omega) (by omega) (by omega) (by omega) 0
    rw [← hw]
    obtain ⟨s0, s1, s2, s3, s4⟩ := se_n (v := w) (i := i) (n := 0)
    have Gs : RG (seR w i 0) (va_up σ (17 * i + 3) 0) := Gw.lo (va_up_ne (k := 3) (j := 0) w.1 (nI 0 + 1) (by decide)) (va_up_ne (k := 3) (j := 1) w.1 (nI 0 + 1) (by decide)) (va_up_ne (k := 3) (j := 2) w.1 (nI 0 + 1) (by decide)) rfl (fun _ _ => rfl)
    have w5 : w.2.1 i 5 = σ (17 * i + 5) := (Gw.g hi 5 (by omega)).trans (va_up_ne _ _ (by show 17 * i + 5 ≠ _; omega))
    have w6 : w.2.1 0 6 = σ (17 * 0 + 6) := (Gw.g (i := 0) (by omega) 6 (by omega)).trans (va_up_ne _ _ (by show 17 * 0 + 6 ≠ _; omega))
    have w2 : w.1 2 = σ 104 := Gw.2.2.1.trans (va_up_ne _ _ (by omega))
    have w3 : w.2.1 i 3 = 0 := by rw [hw]; exact up2_s
    have hx : whM σ i = remW (va_up σ (17 * i + 3) 0) (σ (17 * i + 5)) := by
      unfold whM remW
      rw [va_up_ne _ _ (by omega)]
    have H := Gs.hear Tw (j := 0) hi s0 (s1.trans w5) (s2.trans w2) (s3.trans w6) hx
    have eS : senC w i 0 = rmvC (heaC (seR w i 0) 0) 0 (0 + 1) := by
      unfold senC
      exact if_pos (s4.trans w3)
    rw [eS]
    show (heaC (seR w i 0) 0).2.1 i 5 - (heaC (seR w i 0) 0).2.1 i 8 = sntM σ i
    rw [show (heaC (seR w i 0) 0).2.1 i 5 = telC (va_up σ (17 * i + 3) 0) i (whM σ i) (σ 104) (σ (17 * i + 5)) (σ (17 * 0 + 6)) (17 * i + 5) from H.g hi 5 (by omega), show (heaC (seR w i 0) 0).2.1 i 8 = telC (va_up σ (17 * i + 3) 0) i (whM σ i) (σ 104) (σ (17 * i + 5)) (σ (17 * 0 + 6)) (17 * i + 8) from H.g hi 8 (by omega), tel_8w, telC_lo (fun k _ _ => by omega), va_up_ne _ _ (by omega)]
    unfold sntM
    rw [telC_lo (q := 17 * i + 5) (fun k _ _ => by omega)]
/-! all have come -/
theorem mov_ex {E : Nat} (hE : 1 ≤ E) (hE2 : E < 2 ^ 30) : ∀ (u k : Nat) (v : VV), k + u ≤ 20 → v.1 3 = nI (k + u) → (∀ r, k ≤ r → r < k + u → ∃ d, 1 ≤ d ∧ d < 2 ^ 30 ∧ v.2.2 r 4 = nI d) → ((∃ r, r < k ∧ v.2.2 r 4 = nI E) ∨ (∃ r, k ≤ r ∧ r < k + u ∧ v.2.2 r 4 = nI (E + 1))) → ∃ n' r, n' ≤ 20 ∧ (movC u k v).1 3 = nI n' ∧ r < n' ∧ (movC u k v).2.2 r 4 = nI E := by
  intro u
  induction u with
  | zero =>
    intro k v h1 h3 hd hx
    rcases hx with ⟨r, hr, e⟩ | ⟨r, hr, hr2, e⟩
    · exact ⟨k, r, h1, h3, hr, e⟩
    · omega
  | succ u ih =>
    intro k v h1 h3 hd hx
    obtain ⟨d, d1, d2, d3⟩ := hd k (by omega) (by omega)
    obtain ⟨d, rfl⟩ : ∃ d', d = d' + 1 := ⟨d - 1, by omega⟩
    have e4 : v.2.2 k 4 - 1 = nI d := by rw [d3]; exact nI_sub1 d
    unfold movC
    have oth : ∀ r, r ≠ k → (vR v k 4 (v.2.2 k 4 - 1)).2.2 r = v.2.2 r := fun r hr => up2_i hr
    by_cases hz : d = 0
    · rw [if_pos (by rw [e4, hz]; decide)]
      have ro : ∀ r, r < k + u → (rmvC (heaC (vR v k 4 (v.2.2 k 4 - 1)) k) k (k + u + 1)).2.2 r = v.2.2 (if r < k then r else r + 1) := fun r hr => by
        show rotN k (k + u + 1) (heaC (vR v k 4 (v.2.2 k 4 - 1)) k).2.2 r = _
        rw [heaC_2, rot_lo _ (by omega), oth _ (by split <;> omega)]
      refine ih k _ (by omega) (rmvC_3 _ _ _) (fun r hr hr2 => ?_) ?_
      · rw [ro r hr2, if_neg (by omega)]
        exact hd (r + 1) (by omega) (by omega)
      · rcases hx with ⟨r, hr, e⟩ | ⟨r, hr, hr2, e⟩
        · exact Or.inl ⟨r, hr, by rw [ro r (by omega), if_pos hr]; exact e⟩
        · have hrk : r ≠ k := fun z => by
            rw [z, d3] at e
            have := (nI_eq (by omega) (by omega)).mp e
            omega
          refine Or.inr ⟨r - 1, by omega, by omega, ?_⟩
          rw [ro (r - 1) (by omega), if_neg (by omega), show r - 1 + 1 = r by omega]
          exact e
    · rw [if_neg (by rw [e4]; exact nI_nle (by omega) (by omega))]
      refine ih (k + 1) _ (by omega) (by show v.1 3 = _; rw [h3]; congr 1; omega) (fun r hr hr2 => ?_) ?_
      · rw [oth r (by omega)]
        exact hd r (by omega) (by omega)
      · rcases hx with ⟨r, hr, e⟩ | ⟨r, hr, hr2, e⟩
        · exact Or.inl ⟨r, by omega, by rw [oth r (by omega)]; exact e⟩
        · by_cases hrk : r = k
          · refine Or.inl ⟨k, by omega, up2_s.trans (e4.trans ?_)⟩
            rw [hrk, d3] at e
            have := (nI_eq (by omega) (by omega)).mp e
            congr 1
            omega
          · exact Or.inr ⟨r, by omega, by omega, by rw [oth r hrk]; exact e⟩
theorem lon_D (hr : ∀ r, r < n → ∃ d, 1 ≤ d ∧ d ≤ B ∧ v.2.2 r 4 = nI d) (hB : B < 2 ^ 30) : ∀ m, m ≤ n → ∃ D, D ≤ B ∧ lonC v m = nI D ∧ (∀ r, r < m → ∃ d, 1 ≤ d ∧ d ≤ D ∧ v.2.2 r 4 = nI d) ∧ (D = 0 ∨ ∃ r, r < m ∧ v.2.2 r 4 = nI D) := by
  intro m
  induction m with
  | zero => intro _; exact ⟨0, Nat.zero_le _, rfl, fun r hr => absurd hr (Nat.not_lt_zero r), Or.inl rfl⟩
  | succ m ih =>
    intro hm
    obtain ⟨D, h1, h2, h3, h4⟩ := ih (by omega)
    obtain ⟨d, d1, d2, d3⟩ := hr m (by omega)
    show ∃ D, D ≤ B ∧ (if lonC v m < v.2.2 m 4 then v.2.2 m 4 else lonC v m) = nI D ∧ _
    rw [h2, d3]
    by_cases c : D < d
    · refine ⟨d, d2, if_pos (nI_lt c (by omega)), fun r hrm => ?_, Or.inr ⟨m, by omega, d3⟩⟩
      by_cases hq : r = m
      · exact ⟨d, d1, Nat.le_refl d, by rw [hq]; exact d3⟩
      · obtain ⟨e, e1, e2, e3⟩ := h3 r (by omega)
        exact ⟨e, e1, by omega, e3⟩
    · refine ⟨D, h1, if_neg (nI_nlt (by omega) (by omega)), fun r hrm => ?_, ?_⟩
      · by_cases hq : r = m
        · exact ⟨d, d1, by omega, by rw [hq]; exact d3⟩
        · exact h3 r (by omega)
      · rcases h4 with z | ⟨r, hr1, hr2⟩
        · exact Or.inl z
        · exact Or.inr ⟨r, by omega, hr2⟩
theorem all_N (R0 : Rel B v σ n h) (hB : h + B + B < 19000) : ∃ N, N ≤ B ∧ lonC v n = nI N ∧ pasM 0 σ N 105 = nI 0 ∧ (∀ q, q < N → ¬ pasM 0 σ q 105 = nI 0) ∧ ∃ n', Rel B (pasC 0 v N) (pasM 0 σ N) n' (h + N) := by
  obtain ⟨G, T, hn20, hv, hs, h4, hb, hr⟩ := id R0
  obtain ⟨D, h1, h2, h3, h4'⟩ := lon_D (v := v) (B := B) (n := n) (fun r hrn => by
    obtain ⟨-, d, d1, d2, d3, -⟩ := hr r hrn
    exact ⟨d, d1, d2, d3⟩) (by omega) n (Nat.le_refl n)
  have RD : Rel D v σ n h := by
    refine ⟨G, T, hn20, hv, hs, h4, hb, fun r hrn => ?_⟩
    obtain ⟨F, d, d1, d2, d3, d4⟩ := hr r hrn
    obtain ⟨e, e1, e2, e3⟩ := h3 r hrn
    have : d = e := (nI_eq (by omega) (by omega)).mp (d3.symm.trans e3)
    exact ⟨F, d, d1, by omega, d3, d4⟩
  have step : ∀ q, q ≤ D → ∃ n', Rel (D - q) (pasC 0 v q) (pasM 0 σ q) n' (h + q) ∧ (q < D → ∃ r, r < n' ∧ (pasC 0 v q).2.2 r 4 = nI (D - q)) := by
    intro q
    induction q with
    | zero =>
      intro _
      refine ⟨n, RD, fun hq => ?_⟩
      rcases h4' with z | z
      · omega
      · exact z
    | succ q ih =>
      intro hq
      obtain ⟨n1, R1, ex⟩ := ih (by omega)
      obtain ⟨n2, R2⟩ := Rel.hour (B := D - (q + 1)) (by rw [show D - (q + 1) + 1 = D - q by omega]; exact R1) (by omega) (am := 0) (by decide) (by decide)
      refine ⟨n2, R2, fun hq2 => ?_⟩
      obtain ⟨r, hr1, hr2⟩ := ex (by omega)
      have hv1 : (pasC 0 v q).1 3 = nI n1 := R1.2.2.2.1
      have hn1 := R1.2.2.1
      obtain ⟨n3, r3, q1, q2, q3, q4⟩ := mov_ex (E := D - (q + 1)) (by omega) (by omega) n1 0 (ho1C 0 (pasC 0 v q)) (by omega) (by rw [ho1C_3, hv1, Nat.zero_add]) (fun r _ hr => by
        rw [show (ho1C 0 (pasC 0 v q)).2.2 = (pasC 0 v q).2.2 from catL_2 0 _ 6]
        obtain ⟨-, d, d1, d2, d3, -⟩ := R1.2.2.2.2.2.2.2 r (by omega)
        exact ⟨d, d1, by omega, d3⟩) (Or.inr ⟨r, by omega, by omega, by
        rw [show (ho1C 0 (pasC 0 v q)).2.2 = (pasC 0 v q).2.2 from catL_2 0 _ 6, hr2]
        congr 1
        omega⟩)
      have ehou : houC 0 (pasC 0 v q) = movC n1 0 (ho1C 0 (pasC 0 v q)) := by
        unfold houC
        rw [hv1, nI_clamp (by omega)]
      rw [← ehou] at q2 q4
      have e23 : n2 = n3 := (nI_eq (by have := R2.2.2.1; omega) (by omega)).mp (R2.2.2.2.1.symm.trans q2)
      exact ⟨r3, by omega, q4⟩
  obtain ⟨nD, RDD, -⟩ := step D (Nat.le_refl D)
  have hnD : nD = 0 := Classical.byContradiction (fun z => by
    obtain ⟨-, d, d1, d2, -, -⟩ := RDD.2.2.2.2.2.2.2 0 (by omega)
    omega)
  refine ⟨D, h1, h2, by rw [← hnD]; exact RDD.2.2.2.2.1, fun q hq => ?_, nD, RDD.mono (by omega)⟩
  obtain ⟨n1, R1, ex⟩ := step q (by omega)
  obtain ⟨r, hr1, -⟩ := ex hq
  rw [R1.2.2.2.2.1]
  exact nI_ne0 (by omega) (by have := R1.2.2.1; omega)
theorem sim_ifAll (R0 : Rel B v σ n h) (hB : h + B + B < 19000) : ∃ N, pasM 0 σ N 105 = nI 0 ∧ (∀ q, q < N → ¬ pasM 0 σ q 105 = nI 0) ∧ ∀ (t : VV) (x : Int32), oIfAll (cpyC t v n) n x = (mIfAll N (σ, ar, ns) x).1 := by
  obtain ⟨N, a1, a2, a3, a4, -⟩ := all_N R0 hB
  refine ⟨N, a3, a4, fun t x => ?_⟩
  obtain ⟨N', b1, b2, b3, b4, n', R'⟩ := all_N (R0.cpy t) hB
  have eN : N' = N := by
    apply Classical.byContradiction
    intro z
    rcases Nat.lt_or_gt_of_ne z with y | y
    · exact a4 N' y b3
    · exact b4 N y a3
  subst eN
  rcases gxn_cases (n := 6) (by decide) x with ⟨e1, h1⟩ | ⟨i, hi, rfl, e1⟩
  · rw [mIfAll_n e1]
    unfold oIfAll
    rw [e1]
  · rw [mIfAll_y e1]
    unfold oIfAll
    rw [e1]
    dsimp only
    rw [b2, nI_clamp (by omega), show (pasC 0 (cpyC t v n) N').2.1 i 5 = pasM 0 σ N' (17 * i + 5) from R'.1.g hi 5 (by omega), show (pasC 0 (cpyC t v n) N').2.1 i 8 = pasM 0 σ N' (17 * i + 8) from R'.1.g hi 8 (by omega)]
theorem mos_eq (G : RG v σ) : ∀ m, m ≤ 6 → mosP v m = (uoV σ (mouM σ m), foV (mouM σ m)) := by
  intro m
  induction m with
  | zero => intro _; rfl
  | succ m ih =>
    intro hm
    show (if (mosP v m).1 < v.2.1 m 5 - v.2.1 m 10 then (v.2.1 m 5 - v.2.1 m 10, nI m) else mosP v m) = _
    have eu : v.2.1 m 5 - v.2.1 m 10 = untM σ m := by
      rw [show v.2.1 m 5 = σ (17 * m + 5) from G.g (by omega) 5 (by omega), show v.2.1 m 10 = σ (17 * m + 11) from G.g (by omega) 10 (by omega)]
      rfl
    rw [ih (by omega), eu]
    show _ = (uoV σ (if uoV σ (mouM σ m) < untM σ m then some m else mouM σ m), foV (if uoV σ (mouM σ m) < untM σ m then some m else mouM σ m))
    by_cases c : uoV σ (mouM σ m) < untM σ m
    · rw [if_pos c, if_pos c]
      rfl
    · rw [if_neg c, if_neg c]
theorem sim_most (R0 : Rel B v σ n h) : mosL v 6 = foV (mouM σ 6) := by
  unfold mosL
  rw [mos_eq R0.1 6 (by omega)]
end
