/-! runners: class and model, an hour -/
def RF (v : VV) (σ : Nat → Int32) (r : Nat) : Prop := v.2.2 r 0 = σ (106 + 6 * r) ∧ v.2.2 r 1 = σ (106 + 6 * r + 4) ∧ v.2.2 r 2 = σ (106 + 6 * r + 2) ∧ v.2.2 r 3 = σ (106 + 6 * r + 5) ∧ σ (106 + 6 * r + 1) = remW σ (σ (106 + 6 * r + 4))
def RT (B h : Nat) (v : VV) (σ : Nat → Int32) (r : Nat) : Prop := ∃ d, 1 ≤ d ∧ d ≤ B ∧ v.2.2 r 4 = nI d ∧ σ (106 + 6 * r + 3) = nI (h + d)
/-- bounds: the share of the gauge 0 and what it caught; the ways -/
def BD (σ : Nat → Int32) (h : Nat) : Prop := 0 ≤ (σ 2).toInt ∧ (σ 2).toInt ≤ 200 ∧ 0 ≤ (σ 6).toInt ∧ (σ 6).toInt ≤ 1782 * (h : Int) ∧ ∀ i, i < 6 → ∃ w, w ≤ 9 ∧ σ (17 * i + 3) = nI w
def Rel (B : Nat) (v : VV) (σ : Nat → Int32) (n h : Nat) : Prop := RG v σ ∧ TI σ n ∧ n ≤ 20 ∧ v.1 3 = nI n ∧ σ 105 = nI n ∧ σ 104 = nI h ∧ BD σ h ∧ ∀ r, r < n → RF v σ r ∧ RT B h v σ r
theorem BD.cg {σ τ : Nat → Int32} {h : Nat} (b : BD σ h) (e2 : τ 2 = σ 2) (e6 : τ 6 = σ 6) (e3 : ∀ i, i < 6 → τ (17 * i + 3) = σ (17 * i + 3)) : BD τ h := by
  obtain ⟨b1, b2, b3, b4, b5⟩ := b
  exact ⟨by rw [e2]; exact b1, by rw [e2]; exact b2, by rw [e6]; exact b3, by rw [e6]; exact b4, fun i hi => by rw [e3 i hi]; exact b5 i hi⟩
theorem RF.row {v w : VV} {σ τ : Nat → Int32} {r q : Nat} (h : RF v σ r) (hv : w.2.2 q = v.2.2 r) (hs : ∀ j, j < 6 → τ (106 + 6 * q + j) = σ (106 + 6 * r + j)) (hw : τ 102 = σ 102) : RF w τ q := by
  obtain ⟨h0, h1, h2, h3, h4⟩ := h
  have s0 := hs 0 (by omega)
  refine ⟨by rw [hv]; exact h0.trans s0.symm, by rw [hv, hs 4 (by omega)]; exact h1, by rw [hv, hs 2 (by omega)]; exact h2, by rw [hv, hs 5 (by omega)]; exact h3, ?_⟩
  unfold remW
  rw [hs 1 (by omega), hs 4 (by omega), hw]
  exact h4
theorem RF.row4 {v w : VV} {σ : Nat → Int32} {r : Nat} (h : RF v σ r) (hv : ∀ k, k < 4 → w.2.2 r k = v.2.2 r k) : RF w σ r := by
  obtain ⟨h0, h1, h2, h3, h4⟩ := h
  exact ⟨by rw [hv 0 (by omega)]; exact h0, by rw [hv 1 (by omega)]; exact h1, by rw [hv 2 (by omega)]; exact h2, by rw [hv 3 (by omega)]; exact h3, h4⟩
theorem RT.row {B h : Nat} {v w : VV} {σ τ : Nat → Int32} {r q : Nat} (t : RT B h v σ r) (hv : w.2.2 q = v.2.2 r) (hs : τ (106 + 6 * q + 3) = σ (106 + 6 * r + 3)) : RT B h w τ q := by
  obtain ⟨d, d1, d2, d3, d4⟩ := t
  exact ⟨d, d1, d2, by rw [hv]; exact d3, by rw [hs]; exact d4⟩
theorem telC_lo {σ : Nat → Int32} {i q : Nat} {x h t c : Int32} (hq : ∀ k, 8 ≤ k → k < 17 → q ≠ 17 * i + k) : telC σ i x h t c q = σ q := by
  unfold telC telT
  dsimp only
  split
  · exact va_up_ne _ _ (hq 14 (by omega) (by omega))
  · split
    · exact va_up_ne _ _ (hq 15 (by omega) (by omega))
    · rw [va_up_ne _ _ (hq 12 (by omega) (by omega)), va_up_ne _ _ (hq 11 (by omega) (by omega)), va_up_ne _ _ (hq 10 (by omega) (by omega)), va_up_ne _ _ (hq 9 (by omega) (by omega)), va_up_ne _ _ (hq 13 (by omega) (by omega)), va_up_ne _ _ (hq 8 (by omega) (by omega))]
theorem BD.tel {σ : Nat → Int32} {b : Nat} (h : BD σ b) {i : Nat} (hi : i < 6) {x hh t c : Int32} : BD (telC σ i x hh t c) b :=
  h.cg (telC_lo (fun k _ _ => by omega)) (telC_lo (fun k _ _ => by omega)) (fun j hj => telC_lo (fun k _ _ => by omega))
theorem BD.drm {σ : Nat → Int32} {b : Nat} (h : BD σ b) {k n : Nat} : BD (drM k n σ) b := h.cg (drM_o (by omega)) (drM_o (by omega)) (fun i hi => drM_o (by omega))
theorem RG.drm {v : VV} {σ : Nat → Int32} (G : RG v σ) (k n : Nat) : RG (rmvC v k n) (drM k n σ) := by
  obtain ⟨h0, h1, h2, hG, hW⟩ := G
  have e : ∀ q, q < 105 → drM k n σ q = σ q := fun q hq => drM_o hq
  refine ⟨(va_up_ne v.1 (nI (n - 1)) (show (0 : Nat) ≠ 3 by decide)).trans (h0.trans (e 102 (by omega)).symm), (va_up_ne v.1 (nI (n - 1)) (show (1 : Nat) ≠ 3 by decide)).trans (h1.trans (e 103 (by omega)).symm), (va_up_ne v.1 (nI (n - 1)) (show (2 : Nat) ≠ 3 by decide)).trans (h2.trans (e 104 (by omega)).symm), fun i hi q hq => ?_, fun i hi => ?_⟩
  · have := gm_le hq
    rw [e _ (by omega)]
    exact hG i hi q hq
  · unfold remW
    rw [e _ (by omega), e _ (by omega), e _ (by omega)]
    exact hW i hi
theorem rot_lo {α : Type} {k n r : Nat} (f : Nat → α) (hr : r + 1 < n) : rotN k n f r = f (if r < k then r else r + 1) := by
  unfold rotN
  rw [if_neg (by omega)]
  by_cases h : r < k
  · rw [if_neg (by omega), if_pos h]
  · rw [if_pos (by omega), if_neg h]
/-- one who has come -/
theorem RG.gone {v : VV} {σ : Nat → Int32} (G : RG v σ) {n k : Nat} (T : TI σ n) (hk : k < n) (hn : n ≤ 20) {w : VV} (hw1 : w.1 = v.1) (hw2 : w.2.1 = v.2.1) (F : RF w σ k) {i : Nat} (hi : i < 6) (ei : σ (106 + 6 * k) = nI i) :
    RG (rmvC (heaC w k) k n) (drM k n (telC σ i (σ (106 + 6 * k + 1)) (σ (106 + 6 * k + 2)) (σ (106 + 6 * k + 4)) (σ (106 + 6 * k + 5)))) ∧ TI (drM k n (telC σ i (σ (106 + 6 * k + 1)) (σ (106 + 6 * k + 2)) (σ (106 + 6 * k + 4)) (σ (106 + 6 * k + 5)))) (n - 1) ∧
    (∀ r, r + 1 < n → (rmvC (heaC w k) k n).2.2 r = w.2.2 (if r < k then r else r + 1) ∧ ∀ j, j < 6 → drM k n (telC σ i (σ (106 + 6 * k + 1)) (σ (106 + 6 * k + 2)) (σ (106 + 6 * k + 4)) (σ (106 + 6 * k + 5))) (106 + 6 * r + j) = σ (106 + 6 * (if r < k then r else r + 1) + j)) := by
  have Gw : RG w σ := by
    obtain ⟨h0, h1, h2, hG, hW⟩ := G
    exact ⟨by rw [hw1]; exact h0, by rw [hw1]; exact h1, by rw [hw1]; exact h2, fun j hj q hq => by rw [hw2]; exact hG j hj q hq, hW⟩
  obtain ⟨f0, f1, f2, f3, f4⟩ := F
  have b1 := T.2.2.2.2.2.2.1 k hk
  have b5 := T.2.2.2.2.2.2.2 k hk
  refine ⟨(Gw.hear T hi (f0.trans ei) f1 f2 f3 f4).drm k n, (T.telC hi b1.1 b1.2 b5.1 b5.2).drM hk, fun r hr => ⟨?_, fun j hj => ?_⟩⟩
  · show rotN k n (heaC w k).2.2 r = _
    rw [heaC_2, rot_lo _ hr]
  · rw [drM_row hr hj]
    exact telC_o hi (by omega)
theorem nI_sub1 (d : Nat) : nI (d + 1) - 1 = nI d := nI_pred d
/-- all runners, an hour -/
theorem mov_com {B h : Nat} (hB : h + B < 2 ^ 30) : ∀ (u k : Nat) (v : VV) (σ : Nat → Int32), k + u ≤ 20 → RG v σ → TI σ (k + u) → v.1 3 = nI (k + u) → σ 105 = nI (k + u) → σ 104 = nI (h + 1) → BD σ (h + 1) → (∀ r, r < k → RF v σ r ∧ RT B (h + 1) v σ r) → (∀ r, k ≤ r → r < k + u → RF v σ r ∧ RT (B + 1) h v σ r) → ∃ n, Rel B (movC u k v) (comC u k σ) n (h + 1) := by
  intro u
  induction u with
  | zero => intro k v σ h1 G T hv hs h4 hb hlo hhi; exact ⟨k, G, T, h1, hv, hs, h4, hb, hlo⟩
  | succ u ih =>
    intro k v σ h1 G T hv hs h4 hb hlo hhi
    obtain ⟨F, d, d1, d2, d3, d4⟩ := hhi k (by omega) (by omega)
    obtain ⟨i, hi, ei⟩ := T.2.2.2.2.2.1 k (by omega)
    obtain ⟨d, rfl⟩ : ∃ d', d = d' + 1 := ⟨d - 1, by omega⟩
    have e4 : v.2.2 k 4 - 1 = nI d := by rw [d3]; exact nI_sub1 d
    have F' : RF (vR v k 4 (v.2.2 k 4 - 1)) σ k := F.row4 (fun q hq => up2_k (by omega))
    unfold movC comC
    by_cases hz : d = 0
    · rw [if_pos (by rw [e4, hz]; decide), if_pos (by rw [d4, h4]; exact nI_le (by omega) (by omega)), ei, nI_clamp (by omega)]
      obtain ⟨g1, g2, g3⟩ := G.gone T (n := k + (u + 1)) (k := k) (by omega) h1 (w := vR v k 4 (v.2.2 k 4 - 1)) rfl rfl F' hi ei
      have w102 : drM k (k + u + 1) (telC σ i (σ (106 + 6 * k + 1)) (σ (106 + 6 * k + 2)) (σ (106 + 6 * k + 4)) (σ (106 + 6 * k + 5))) 102 = σ 102 := (drM_o (by omega)).trans (telC_o hi (by omega))
      refine ih k _ _ (by omega) g1 g2 (rmvC_3 _ _ _) drM_105 ((drM_o (by omega)).trans ((telC_o hi (by omega)).trans h4)) (hb.tel hi).drm (fun r hr => ?_) (fun r hr hr2 => ?_)
      · obtain ⟨p1, p2⟩ := g3 r (by omega)
        rw [if_pos hr, show (vR v k 4 (v.2.2 k 4 - 1)).2.2 r = v.2.2 r from up2_i (by omega)] at p1
        rw [if_pos hr] at p2
        exact ⟨(hlo r hr).1.row p1 p2 w102, (hlo r hr).2.row p1 (p2 3 (by omega))⟩
      · obtain ⟨p1, p2⟩ := g3 r (by omega)
        rw [if_neg (by omega), show (vR v k 4 (v.2.2 k 4 - 1)).2.2 (r + 1) = v.2.2 (r + 1) from up2_i (by omega)] at p1
        rw [if_neg (by omega)] at p2
        have hh := hhi (r + 1) (by omega) (by omega)
        exact ⟨hh.1.row p1 p2 w102, hh.2.row p1 (p2 3 (by omega))⟩
    · rw [if_neg (by rw [e4]; exact nI_nle (by omega) (by omega)), if_neg (by rw [d4, h4]; exact nI_ge (by omega) (by omega))]
      have ek : k + (u + 1) = k + 1 + u := by omega
      rw [ek] at T hv hs
      refine ih (k + 1) (vR v k 4 (v.2.2 k 4 - 1)) σ (by omega) G T hv hs h4 hb (fun r hr => ?_) (fun r hr hr2 => ?_)
      · by_cases hrk : r = k
        · subst hrk
          exact ⟨F', d, by omega, by omega, up2_s.trans e4, by rw [d4]; congr 1; omega⟩
        · have hh := hlo r (by omega)
          exact ⟨hh.1.row (up2_i hrk) (fun _ _ => rfl) rfl, hh.2.row (up2_i hrk) rfl⟩
      · have hh := hhi r (by omega) (by omega)
        exact ⟨hh.1.row (up2_i (by omega)) (fun _ _ => rfl) rfl, hh.2.row (up2_i (by omega)) rfl⟩
/-- the rain of an hour -/
theorem fel_bd {σ : Nat → Int32} {n : Nat} (T : TI σ n) (s1 : 0 ≤ (σ 2).toInt) (s2 : (σ 2).toInt ≤ 200) {am : Int32} (a1 : 0 ≤ am.toInt) (a2 : am.toInt ≤ 99) : 0 ≤ (felM σ 0 am).toInt ∧ (felM σ 0 am).toInt ≤ 1782 := by
  obtain ⟨m1, m2⟩ := T.2.1 0 (by omega)
  have e1 : 0 ≤ am.toInt * (σ (17 * 0)).toInt ∧ am.toInt * (σ (17 * 0)).toInt ≤ 891 := by
    refine ⟨Int.mul_nonneg a1 (by omega), ?_⟩
    have h1 := Int.mul_le_mul_of_nonneg_right (c := (σ (17 * 0)).toInt) a2 (by omega)
    omega
  have e2 : (am * σ (17 * 0)).toInt = am.toInt * (σ (17 * 0)).toInt := ti_mul (by omega) (by omega)
  have e3 : 0 ≤ (am * σ (17 * 0)).toInt * (σ 2).toInt ∧ (am * σ (17 * 0)).toInt * (σ 2).toInt ≤ 178200 := by
    rw [e2]
    refine ⟨Int.mul_nonneg e1.1 s1, ?_⟩
    have h1 := Int.mul_le_mul_of_nonneg_right (c := (σ 2).toInt) e1.2 s1
    omega
  have e4 : (am * σ (17 * 0) * σ 2).toInt = (am * σ (17 * 0)).toInt * (σ 2).toInt := ti_mul (by omega) (by omega)
  show 0 ≤ (am * σ (17 * 0) * σ 2 / 100).toInt ∧ (am * σ (17 * 0) * σ 2 / 100).toInt ≤ 1782
  have e5 : (100 : Int32).toInt = 100 := rfl
  rw [lg_idiv_nonneg (by rw [e4]; exact e3.1) (by rw [e5]; omega), e4, e5]
  omega
theorem catM_lo {σ : Nat → Int32} {i q : Nat} {am : Int32} (hq : ∀ k, 4 ≤ k → k < 8 → q ≠ 17 * i + k) : catM σ i am q = σ q := by
  unfold catM catM2
  try dsimp only
  rw [va_up_ne _ _ (hq 5 (by omega) (by omega)), va_up_ne _ _ (hq 7 (by omega) (by omega)), va_up_ne _ _ (hq 4 (by omega) (by omega)), va_up_ne _ _ (hq 4 (by omega) (by omega)), va_up_ne _ _ (hq 6 (by omega) (by omega))]
theorem catML_lo {σ : Nat → Int32} {am : Int32} {q : Nat} (hq : ∀ i k, 4 ≤ k → k < 8 → q ≠ 17 * i + k) : ∀ i, catML am σ i q = σ q := by
  intro i
  induction i with
  | zero => rfl
  | succ i ih => exact (catM_lo (fun k h1 h2 => hq i k h1 h2)).trans ih
theorem catML_6 {σ : Nat → Int32} {am : Int32} : ∀ i, catML am σ (i + 1) 6 = σ 6 + felM σ 0 am := by
  intro i
  induction i with
  | zero =>
    show catM σ 0 am 6 = _
    unfold catM catM2
    try dsimp only
    rw [va_up_ne _ _ (by omega), va_up_ne _ _ (by omega), va_up_ne _ _ (by omega), va_up_ne _ _ (by omega)]
    exact va_up_self _ _ _
  | succ i ih => exact (catM_lo (fun k h1 h2 => by omega)).trans ih
theorem BD.ho1 {σ : Nat → Int32} {n h : Nat} (b : BD σ h) (T : TI σ n) (hh : h ≤ 20000) {am : Int32} (a1 : 0 ≤ am.toInt) (a2 : am.toInt ≤ 99) : BD (ho1M am σ) (h + 1) := by
  obtain ⟨b1, b2, b3, b4, b5⟩ := b
  have f := fel_bd T b1 b2 a1 a2
  have e2 : ho1M am σ 2 = σ 2 := (va_up_ne _ _ (by omega)).trans (catML_lo (fun i k _ _ => by omega) 6)
  have e6 : ho1M am σ 6 = σ 6 + felM σ 0 am := (va_up_ne _ _ (by omega)).trans (catML_6 5)
  have t6 : (σ 6 + felM σ 0 am).toInt = (σ 6).toInt + (felM σ 0 am).toInt := ti_add (by omega) (by omega)
  refine ⟨by rw [e2]; exact b1, by rw [e2]; exact b2, by rw [e6, t6]; omega, by rw [e6, t6]; omega, fun i hi => ?_⟩
  obtain ⟨w, hw, e⟩ := b5 i hi
  exact ⟨w, hw, (va_up_ne _ _ (by omega)).trans ((catML_lo (fun j k _ _ => by omega) 6).trans e)⟩
theorem ho1_hi {σ : Nat → Int32} {am : Int32} {q : Nat} (hq : 102 ≤ q) (h4 : q ≠ 104) : ho1M am σ q = σ q := (va_up_ne _ _ h4).trans (catML_o hq 6 (by omega))
theorem Rel.hour {B : Nat} {v : VV} {σ : Nat → Int32} {n h : Nat} (R : Rel (B + 1) v σ n h) (hB : h + B < 20000) {am : Int32} (a1 : 0 ≤ am.toInt) (a2 : am.toInt ≤ 99) : ∃ n', Rel B (houC am v) (houM am σ) n' (h + 1) := by
  obtain ⟨G, T, hn, hv, hs, h4, hb, hr⟩ := R
  unfold houC houM
  rw [hv, hs, nI_clamp (by omega)]
  refine mov_com (h := h) (by omega) n 0 _ _ (by omega) (G.ho1 T am) (by rw [Nat.zero_add]; exact T.ho1M am) (by rw [ho1C_3, hv, Nat.zero_add]) (by rw [ho1M_105, hs, Nat.zero_add]) ?_ (hb.ho1 T (by omega) a1 a2) (fun r hr => absurd hr (Nat.not_lt_zero r)) (fun r _ hr2 => ?_)
  · show va_up _ 104 _ 104 = _
    rw [va_up_self, catML_o (by omega) 6 (by omega), h4]
    exact nI_1 h
  · have hh := hr r (by omega)
    have ev : (ho1C am v).2.2 = v.2.2 := catL_2 am v 6
    exact ⟨hh.1.row (by rw [ev]) (fun j hj => ho1_hi (by omega) (by omega)) (ho1_hi (by omega) (by omega)), hh.2.row (by rw [ev]) (ho1_hi (by omega) (by omega))⟩
theorem Rel.mono {B C : Nat} {v : VV} {σ : Nat → Int32} {n h : Nat} (R : Rel B v σ n h) (hB : B ≤ C) : Rel C v σ n h := by
  obtain ⟨G, T, hn, hv, hs, h4, hb, hr⟩ := R
  refine ⟨G, T, hn, hv, hs, h4, hb, fun r hrn => ?_⟩
  obtain ⟨F, d, d1, d2, d3, d4⟩ := hr r hrn
  exact ⟨F, d, d1, by omega, d3, d4⟩
theorem Rel.pass {B : Nat} {v : VV} {σ : Nat → Int32} {n h : Nat} (R : Rel B v σ n h) {am : Int32} (a1 : 0 ≤ am.toInt) (a2 : am.toInt ≤ 99) : ∀ q, h + q + B < 20000 → (∃ n', Rel B (pasC am v q) (pasM am σ q) n' (h + q)) ∧ pasT am v q = patM am σ q := by
  intro q
  induction q with
  | zero => intro _; exact ⟨⟨n, R⟩, rfl⟩
  | succ q ih =>
    intro hq
    obtain ⟨⟨n', R'⟩, e⟩ := ih (by omega)
    refine ⟨(R'.mono (Nat.le_succ B)).hour (by omega) a1 a2, ?_⟩
    show tisL am (pasC am v q) (pasT am v q) 6 = patM am σ q + tisM am (pasM am σ q) 0 6
    rw [← e]
    exact R'.1.tis R'.2.1 am _ 6 (by omega)
