/-! the class's valley beside the model's row of numbers -/
def gm (k : Nat) : Nat := if k < 10 then k else k + 1
theorem gm_le {k : Nat} (h : k < 16) : gm k ≤ 16 := by unfold gm; split <;> omega
theorem gm_10 (k : Nat) : gm k ≠ 10 := by unfold gm; split <;> omega
theorem gm_inj {a b : Nat} (h : gm a = gm b) : a = b := by unfold gm at h; split at h <;> split at h <;> omega
theorem gm_11 {k : Nat} (h : gm k = 11) : k = 10 := gm_inj (b := 10) h
def remW (σ : Nat → Int32) (x : Int32) : Int32 := x - x / σ 102 * σ 102
def GF (v : VV) (σ : Nat → Int32) : Prop := ∀ i, i < 6 → ∀ k, k < 16 → v.2.1 i k = σ (17 * i + gm k)
def WT (σ : Nat → Int32) : Prop := ∀ i, i < 6 → σ (17 * i + 10) = remW σ (σ (17 * i + 11))
def RG (v : VV) (σ : Nat → Int32) : Prop := v.1 0 = σ 102 ∧ v.1 1 = σ 103 ∧ v.1 2 = σ 104 ∧ GF v σ ∧ WT σ
theorem up2_s {f : Nat → Nat → Int32} {i k : Nat} {x : Int32} : up2 f i k x i k = x := by
  unfold up2
  rw [va_up_self, va_up_self]
theorem up2_k {f : Nat → Nat → Int32} {i k k' : Nat} {x : Int32} (h : k' ≠ k) : up2 f i k x i k' = f i k' := by
  unfold up2
  rw [va_up_self, va_up_ne _ _ h]
theorem up2_i {f : Nat → Nat → Int32} {i k i' : Nat} {x : Int32} (h : i' ≠ i) : up2 f i k x i' = f i' := by
  unfold up2
  rw [va_up_ne _ _ h]
theorem GF.up {v : VV} {σ : Nat → Int32} (G : GF v σ) {i : Nat} (hi : i < 6) {k : Nat} (hk : k < 16) {q : Nat} (hq : q = 17 * i + gm k) {x y : Int32} (hx : x = y) : GF (vG v i k x) (va_up σ q y) := by
  intro i' hi' k' hk'
  subst hx hq
  have h1 := gm_le hk
  have h2 := gm_le hk'
  show up2 v.2.1 i k x i' k' = _
  by_cases e : i' = i
  · subst e
    by_cases e2 : k' = k
    · subst e2
      rw [up2_s, va_up_self]
    · rw [up2_k e2, va_up_ne _ _ (fun z => e2 (gm_inj (by omega)))]
      exact G i' hi' k' hk'
  · rw [up2_i e, va_up_ne _ _ (by omega)]
    exact G i' hi' k' hk'
theorem GF.o {v : VV} {σ : Nat → Int32} (G : GF v σ) {q : Nat} (hq : 102 ≤ q ∨ ∃ i, i < 6 ∧ q = 17 * i + 10) (y : Int32) : GF v (va_up σ q y) := by
  intro i' hi' k' hk'
  have h2 := gm_le hk'
  have h3 := gm_10 k'
  rw [va_up_ne _ _ (by rcases hq with h | ⟨i, hi, h⟩ <;> omega)]
  exact G i' hi' k' hk'
theorem WT.up {σ : Nat → Int32} (G : WT σ) {q : Nat} (h1 : q ≠ 102) (h2 : ∀ i, i < 6 → q ≠ 17 * i + 10 ∧ q ≠ 17 * i + 11) (y : Int32) : WT (va_up σ q y) := by
  intro i hi
  have := h2 i hi
  unfold remW
  rw [va_up_ne _ _ (by omega), va_up_ne _ _ (by omega), va_up_ne _ _ (by omega)]
  exact G i hi
theorem RG.up {v : VV} {σ : Nat → Int32} (G : RG v σ) {i : Nat} (hi : i < 6) (k : Nat) (hk : k < 16) (hk10 : k ≠ 10) {q : Nat} (hq : q = 17 * i + gm k) {x y : Int32} (hx : x = y) : RG (vG v i k x) (va_up σ q y) := by
  obtain ⟨h0, h1, h2, hG, hW⟩ := G
  have g1 := gm_le hk
  have g2 := gm_10 k
  have g3 : gm k ≠ 11 := fun z => hk10 (gm_11 z)
  exact ⟨by rw [va_up_ne _ _ (by omega)]; exact h0, by rw [va_up_ne _ _ (by omega)]; exact h1, by rw [va_up_ne _ _ (by omega)]; exact h2, hG.up hi hk hq hx, hW.up (by omega) (fun j hj => by omega) y⟩
theorem RG.up10 {v : VV} {σ : Nat → Int32} (G : RG v σ) {i : Nat} (hi : i < 6) {x t : Int32} (hx : x = remW σ t) : RG (vG v i 10 t) (va_up (va_up σ (17 * i + 10) x) (17 * i + 11) t) := by
  obtain ⟨h0, h1, h2, hG, hW⟩ := G
  have e : ∀ q, 102 ≤ q → va_up (va_up σ (17 * i + 10) x) (17 * i + 11) t q = σ q := fun q hq => by rw [va_up_ne _ _ (by omega), va_up_ne _ _ (by omega)]
  refine ⟨by rw [e _ (by omega)]; exact h0, by rw [e _ (by omega)]; exact h1, by rw [e _ (by omega)]; exact h2, (hG.o (Or.inr ⟨i, hi, rfl⟩) x).up hi (k := 10) (by omega) rfl rfl, fun j hj => ?_⟩
  unfold remW
  rw [e 102 (by omega)]
  by_cases h : j = i
  · rw [h, va_up_self, va_up_ne _ _ (by omega), va_up_self]
    exact hx
  · rw [va_up_ne _ _ (by omega), va_up_ne _ _ (by omega), va_up_ne _ _ (by omega), va_up_ne _ _ (by omega)]
    exact hW j hj
theorem RG.g {v : VV} {σ : Nat → Int32} (G : RG v σ) {i : Nat} (hi : i < 6) (k : Nat) (hk : k < 16) : v.2.1 i k = σ (17 * i + gm k) := G.2.2.2.1 i hi k hk
theorem TI.w_pos {σ : Nat → Int32} {n : Nat} (T : TI σ n) : 0 < σ 102 := by
  obtain ⟨⟨w0, h1, h2, h3⟩, -⟩ := T
  rw [h3]
  exact nI_lt (a := 0) (by omega) (by omega)
theorem ti_pos {x : Int32} (h : 1 ≤ x.toInt) : 0 < x := ti_lt.mpr (by rw [show (0 : Int32).toInt = 0 from rfl]; omega)
theorem ti_npos {x : Int32} (h : 1 ≤ x.toInt) : ¬ x ≤ 0 := Int32.not_le.mpr (ti_pos h)
theorem RG.wh {v : VV} {σ : Nat → Int32} (G : RG v σ) {n : Nat} (T : TI σ n) (x : Int32) : whC v x = remW σ x := by
  unfold whC remW
  rw [G.1, if_pos T.w_pos]
theorem RG.hear {v : VV} {σ : Nat → Int32} (G : RG v σ) {n : Nat} (T : TI σ n) {i j : Nat} (hi : i < 6) {x t hh c : Int32} (e0 : v.2.2 j 0 = nI i) (e1 : v.2.2 j 1 = t) (e2 : v.2.2 j 2 = hh) (e3 : v.2.2 j 3 = c) (hx : x = remW σ t) : RG (heaC v j) (telC σ i x hh t c) := by
  have hI : heaC v j = heaT v i j := by
    unfold heaC
    rw [e0, gxn_in hi (by decide)]
  rw [hI]
  have m0 := (T.2.1 0 (by omega)).1
  have ci := (T.2.2.1 i hi).1
  have k9 : v.2.1 i 9 = σ (17 * i + 9) := G.g hi 9 (by omega)
  have k10 : v.2.1 i 10 = σ (17 * i + 11) := G.g hi 10 (by omega)
  have k11 : v.2.1 i 11 = σ (17 * i + 12) := G.g hi 11 (by omega)
  have k12 : v.2.1 i 12 = σ (17 * i + 13) := G.g hi 12 (by omega)
  have kw := G.2.2.2.2 i hi
  have w1 : whC v (v.2.2 j 1) = x := by rw [e1, G.wh T, hx]
  have w2 : whC v (v.2.1 i 10) = σ (17 * i + 10) := by rw [k10, G.wh T]; exact kw.symm
  unfold heaT telC
  rw [e2, k9, k12, w1, w2]
  by_cases c1 : hh < σ (17 * i + 9)
  · rw [if_pos c1, if_pos c1]
    exact G.up hi 13 (by omega) (by omega) rfl (by rw [show v.2.1 i 13 = σ (17 * i + 14) from G.g hi 13 (by omega)])
  · rw [if_neg c1, if_neg c1]
    by_cases c2 : 0 < σ (17 * i + 13) ∧ hh = σ (17 * i + 9) ∧ x = σ (17 * i + 10)
    · rw [if_pos c2, if_pos ⟨c2.2.1, c2.2.2, c2.1⟩]
      exact G.up hi 14 (by omega) (by omega) rfl (by rw [show v.2.1 i 14 = σ (17 * i + 15) from G.g hi 14 (by omega)])
    · rw [if_neg c2, if_neg (fun z => c2 ⟨z.2.2, z.1, z.2.1⟩)]
      have we1 : wen1 v i j = x - σ (17 * i + 10) := by unfold wen1; rw [w1, w2]
      have we2 : wen2 v i j = tel2 σ i x := by
        unfold wen2 tel2
        rw [we1, G.1]
        by_cases z : x - σ (17 * i + 10) < 0
        · rw [if_pos z, if_pos z]
        · rw [if_neg z, if_neg z, Int32.add_zero]
      have we3 : wenC v i j = tel3 σ i x c := by
        unfold wenC tel3
        rw [we2, G.2.1]
        by_cases z : σ 103 = 1
        · rw [if_pos z, if_pos z]
          have ee : expC v i j = telE σ i c := by
            unfold expC telE
            rw [show v.2.1 0 0 = σ (17 * 0 + 0) from G.g (by omega) 0 (by omega), show v.2.1 i 1 = σ (17 * i + 1) from G.g hi 1 (by omega), show v.2.1 i 0 = σ (17 * i + 0) from G.g hi 0 (by omega), e3, k11]
            exact if_neg (fun z => z.elim (ti_npos m0) (ti_npos ci))
          rw [ee]
          show _ + v.1 0 * (if _ ∨ v.1 0 ≤ 0 then 0 else (2 * _ + v.1 0 - 1) / (2 * v.1 0)) = _ + σ 102 * rouW (σ 102) _
          rw [G.1]
          rfl
        · rw [if_neg z, if_neg z]
      unfold takC telT
      dsimp only
      have G1 := G.up hi 8 (by omega) (by omega) (q := 17 * i + 8) rfl (x := v.2.1 i 8 + wenC v i j) (y := σ (17 * i + 8) + tel3 σ i x c) (by rw [we3, show v.2.1 i 8 = σ (17 * i + 8) from G.g hi 8 (by omega)])
      have G2 := G1.up hi 12 (by omega) (by omega) (q := 17 * i + 13) rfl (congrArg (· + 1) (G1.g hi 12 (by omega)))
      have G3 := G2.up hi 9 (by omega) (by omega) (q := 17 * i + 9) rfl e2
      have G4 := G3.up10 hi (x := x) (t := t) (by
        rw [hx]
        unfold remW
        rw [va_up_ne _ _ (by omega), va_up_ne _ _ (by omega), va_up_ne _ _ (by omega)])
      have G5 := G4.up hi 11 (by omega) (by omega) (q := 17 * i + 12) rfl e3
      rw [← e1] at G5
      rw [← e1]
      exact G5
theorem GF.catT {v : VV} {σ : Nat → Int32} (G : RG v σ) {i : Nat} (hi : i < 6) (f t : Int32) : RG (catT v i f t) (catM2 σ i f t) := by
  unfold Jvm.Pilot.@@N@@.catT catM2
  dsimp only
  have G1 := G.up hi 6 (by omega) (by omega) (q := 17 * i + 6) rfl (congrArg (· + f) (G.g hi 6 (by omega)))
  have G2 := G1.up hi 4 (by omega) (by omega) (q := 17 * i + 4) rfl (congrArg (· + f) (G1.g hi 4 (by omega)))
  have G3 := G2.up hi 4 (by omega) (by omega) (q := 17 * i + 4) rfl (x := (vG (vG v i 6 (v.2.1 i 6 + f)) i 4 ((vG v i 6 (v.2.1 i 6 + f)).2.1 i 4 + f)).2.1 i 4 - t * (vG (vG v i 6 (v.2.1 i 6 + f)) i 4 ((vG v i 6 (v.2.1 i 6 + f)).2.1 i 4 + f)).2.1 i 1) (by
    rw [G2.g hi 4 (by omega), G2.g hi 1 (by omega), Int32.sub_eq_add_neg, ← Int32.neg_mul])
  have G4 := G3.up hi 7 (by omega) (by omega) (q := 17 * i + 7) rfl (congr (congrArg (· + ·) (G3.g hi 7 (by omega))) (congrArg (t * ·) (G3.g hi 1 (by omega))))
  exact G4.up hi 5 (by omega) (by omega) (q := 17 * i + 5) rfl (congrArg (· + t) (G4.g hi 5 (by omega)))
theorem RG.fel {v : VV} {σ : Nat → Int32} (G : RG v σ) {i : Nat} (hi : i < 6) (am : Int32) : fellC v i am = felM σ i am := by
  unfold fellC felM
  rw [show v.2.1 i 0 = σ (17 * i + 0) from G.g hi 0 (by omega), show v.2.1 i 2 = σ (17 * i + 2) from G.g hi 2 (by omega)]
theorem tip_eq (σ : Nat → Int32) (i : Nat) (c : Int32) : tipM σ i c = (σ (17 * i + 4) + c) / σ (17 * i + 1) := by
  unfold tipM
  dsimp only
  rw [va_up_self, va_up_ne _ _ (by omega), va_up_ne _ _ (by omega), va_up_ne _ _ (by omega)]
theorem RG.tip {v : VV} {σ : Nat → Int32} (G : RG v σ) {n : Nat} (T : TI σ n) {i : Nat} (hi : i < 6) (am : Int32) : tipC v i am = tipM σ i (felM σ i am) := by
  rw [tip_eq, ← G.fel hi]
  unfold tipC
  rw [show v.2.1 i 1 = σ (17 * i + 1) from G.g hi 1 (by omega), show v.2.1 i 4 = σ (17 * i + 4) from G.g hi 4 (by omega), if_pos (ti_pos (T.2.2.1 i hi).1)]
theorem RG.cat {v : VV} {σ : Nat → Int32} (G : RG v σ) {n : Nat} (T : TI σ n) {i : Nat} (hi : i < 6) (am : Int32) : RG (catC v i am) (catM σ i am) := by
  unfold catC catM
  rw [G.tip T hi, G.fel hi]
  exact GF.catT G hi _ _
theorem RG.catL {v : VV} {σ : Nat → Int32} (G : RG v σ) {n : Nat} (T : TI σ n) (am : Int32) : ∀ i, i ≤ 6 → RG (catL am v i) (catML am σ i) := by
  intro i
  induction i with
  | zero => intro _; exact G
  | succ i ih => intro h; exact (ih (by omega)).cat (T.catML am i (by omega)) (by omega) am
theorem RG.tis {v : VV} {σ : Nat → Int32} (G : RG v σ) {n : Nat} (T : TI σ n) (am t : Int32) : ∀ i, i ≤ 6 → tisL am v t i = t + tisM am σ 0 i := by
  intro i
  induction i with
  | zero => intro _; exact (Int32.add_zero t).symm
  | succ i ih =>
    intro h
    show tisL am v t i + _ = t + (tisM am σ 0 i + _)
    rw [ih (by omega), (G.catL T am i (by omega)).tip (T.catML am i (by omega)) (by omega), Int32.add_assoc]
theorem RG.setW {v : VV} {σ : Nat → Int32} (G : RG v σ) (k : Nat) (hk0 : k ≠ 0) {q : Nat} (hq : q = 102 + k) {x y : Int32} (h : x = y) : RG (vW v k x) (va_up σ q y) := by
  obtain ⟨h0, h1, h2, hG, hW⟩ := G
  subst hq h
  have e : ∀ z, z < 3 → v.1 z = σ (102 + z) → va_up v.1 k x z = va_up σ (102 + k) x (102 + z) := fun z _ hz => by
    by_cases hzk : z = k
    · rw [hzk, va_up_self, va_up_self]
    · rw [va_up_ne _ _ hzk, va_up_ne _ _ (by omega)]
      exact hz
  exact ⟨e 0 (by omega) h0, e 1 (by omega) h1, e 2 (by omega) h2, hG.o (Or.inl (by omega)) _, hW.up (by omega) (fun i hi => by omega) _⟩
theorem RG.ho1 {v : VV} {σ : Nat → Int32} (G : RG v σ) {n : Nat} (T : TI σ n) (am : Int32) : RG (ho1C am v) (ho1M am σ) :=
  (G.catL T am 6 (by omega)).setW 2 (by omega) (q := 104) rfl (congrArg (· + 1) (G.catL T am 6 (by omega)).2.2.1)
