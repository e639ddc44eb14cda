/-! two valleys that agree on all that can be asked: settings, gauges, runners on the way -/
def Eq2 (v w : VV) (n : Nat) : Prop := (∀ k, k < 4 → v.1 k = w.1 k) ∧ (∀ i, i < 6 → RowE (v.2.1 i) (w.2.1 i)) ∧ ∀ j, j < n → ∀ k, k < 5 → v.2.2 j k = w.2.2 j k
theorem Eq2.rf {v : VV} {n : Nat} : Eq2 v v n := ⟨fun _ _ => rfl, fun _ _ _ _ => rfl, fun _ _ _ _ => rfl⟩
theorem Eq2.sy {v w : VV} {n : Nat} (h : Eq2 v w n) : Eq2 w v n := ⟨fun k hk => (h.1 k hk).symm, fun i hi k hk => (h.2.1 i hi k hk).symm, fun j hj k hk => (h.2.2 j hj k hk).symm⟩
theorem Eq2.tr {u v w : VV} {n : Nat} (h : Eq2 u v n) (q : Eq2 v w n) : Eq2 u w n := ⟨fun k hk => (h.1 k hk).trans (q.1 k hk), fun i hi k hk => (h.2.1 i hi k hk).trans (q.2.1 i hi k hk), fun j hj k hk => (h.2.2 j hj k hk).trans (q.2.2 j hj k hk)⟩
theorem Eq2.cpy (t w : VV) (n : Nat) : Eq2 (cpyC t w n) w n := by
  refine ⟨fun k hk => ?_, fun i hi k hk => ?_, fun j hj k hk => ?_⟩
  · show cpW t.1 w.1 k = _
    unfold cpW
    exact if_pos hk
  · show mixN cpG 6 t.2.1 w.2.1 i k = _
    unfold mixN
    rw [if_pos hi]
    unfold cpG
    exact if_pos hk
  · show mixN cpR n t.2.2 w.2.2 j k = _
    unfold mixN
    rw [if_pos hj]
    unfold cpR
    exact if_pos hk
section
variable {v w : VV} {n : Nat}
theorem va_row {α : Type} {f g : Nat → α} {i : Nat} {a b : α} {P : α → α → Prop} (h : ∀ j, j < 6 → P (f j) (g j)) (hab : P a b) : ∀ j, j < 6 → P (va_up f i a j) (va_up g i b j) := by
  intro j hj
  by_cases e : j = i
  · rw [e, va_up_self, va_up_self]; exact hab
  · rw [va_up_ne _ _ e, va_up_ne _ _ e]; exact h j hj
theorem Eq2.cat (h : Eq2 v w n) {i : Nat} (hi : i < 6) (a : Int32) : Eq2 (catC v i a) (catC w i a) n := by
  rw [cat_eq, cat_eq]
  exact ⟨h.1, va_row h.2.1 ((h.2.1 i hi).cat a), h.2.2⟩
theorem Eq2.rains (h : Eq2 v w n) (a : Int32) : ∀ i, i ≤ 6 → Eq2 (catL a v i) (catL a w i) n := by
  intro i
  induction i with
  | zero => intro _; exact h
  | succ i ih => intro hi; exact (ih (by omega)).cat (by omega) a
theorem Eq2.ho1 (h : Eq2 v w n) (a : Int32) : Eq2 (ho1C a v) (ho1C a w) n := by
  have h6 := h.rains a 6 (Nat.le_refl 6)
  refine ⟨fun k hk => ?_, h6.2.1, h6.2.2⟩
  show va_up (catL a v 6).1 2 ((catL a v 6).1 2 + 1) k = va_up (catL a w 6).1 2 ((catL a w 6).1 2 + 1) k
  by_cases e : k = 2
  · rw [e, va_up_self, va_up_self, h6.1 2 (by omega)]
  · rw [va_up_ne _ _ e, va_up_ne _ _ e]; exact h6.1 k hk
theorem Eq2.row (h : Eq2 v w n) (j k : Nat) {x y : Int32} (e : x = y) : Eq2 (vR v j k x) (vR w j k y) n := by
  subst e
  refine ⟨h.1, h.2.1, fun j' hj' k' hk' => ?_⟩
  show up2 v.2.2 j k x j' k' = up2 w.2.2 j k x j' k'
  by_cases e : j' = j
  · subst e
    by_cases e2 : k' = k
    · subst e2; rw [up2_s, up2_s]
    · rw [up2_k e2, up2_k e2]; exact h.2.2 _ hj' _ hk'
  · rw [up2_i e, up2_i e]; exact h.2.2 _ hj' _ hk'
theorem Eq2.hea (h : Eq2 v w n) {j : Nat} (hj : j < n) : Eq2 (heaC v j) (heaC w j) n := by
  have e0 := h.2.2 j hj 0 (by omega)
  rcases gxn_cases (n := 6) (by decide) (v.2.2 j 0) with ⟨e1, -⟩ | ⟨i, hi, -, e1⟩
  · have e2 : gxn 6 (w.2.2 j 0) = none := by rw [← e0]; exact e1
    have h1 : heaC v j = v := by unfold heaC; rw [e1]
    have h2 : heaC w j = w := by unfold heaC; rw [e2]
    rw [h1, h2]; exact h
  · have e2 : gxn 6 (w.2.2 j 0) = some i := by rw [← e0]; exact e1
    rw [hea_eq e1, hea_eq e2, h.1 0 (by omega), h.1 1 (by omega), h.2.1 0 (by omega) 0 (by omega), h.2.2 j hj 1 (by omega), h.2.2 j hj 2 (by omega), h.2.2 j hj 3 (by omega)]
    exact ⟨h.1, va_row h.2.1 ((h.2.1 i hi).hea _ _ _ _ _ _), h.2.2⟩
theorem Eq2.rmv (h : Eq2 v w (n + 1)) (k : Nat) : Eq2 (rmvC v k (n + 1)) (rmvC w k (n + 1)) n := by
  refine ⟨fun q hq => ?_, h.2.1, fun j hj q hq => ?_⟩
  · show va_up v.1 3 (nI n) q = va_up w.1 3 (nI n) q
    by_cases e : q = 3
    · rw [e, va_up_self, va_up_self]
    · rw [va_up_ne _ _ e, va_up_ne _ _ e]; exact h.1 q hq
  · show rotN k (n + 1) v.2.2 j q = rotN k (n + 1) w.2.2 j q
    rw [rot_lo _ (by omega), rot_lo _ (by omega)]
    exact h.2.2 _ (by split <;> omega) q hq
end
theorem Eq2.mov : ∀ (u k : Nat) (v w : VV), Eq2 v w (k + u) → v.1 3 = nI (k + u) → ∃ n, n ≤ k + u ∧ (movC u k v).1 3 = nI n ∧ Eq2 (movC u k v) (movC u k w) n := by
  intro u
  induction u with
  | zero => intro k v w h e; exact ⟨k, by omega, e, h⟩
  | succ u ih =>
    intro k v w h e
    have e4 : v.2.2 k 4 - 1 = w.2.2 k 4 - 1 := by rw [h.2.2 k (by omega) 4 (by omega)]
    have h1 : Eq2 (vR v k 4 (v.2.2 k 4 - 1)) (vR w k 4 (w.2.2 k 4 - 1)) (k + (u + 1)) := h.row k 4 e4
    unfold movC
    by_cases hz : v.2.2 k 4 - 1 ≤ 0
    · rw [if_pos hz, if_pos (by rw [← e4]; exact hz)]
      obtain ⟨n, a1, a2, a3⟩ := ih k _ _ (Eq2.rmv (n := k + u) (h1.hea (j := k) (by omega)) k) (rmvC_3 _ _ _)
      exact ⟨n, by omega, a2, a3⟩
    · rw [if_neg hz, if_neg (by rw [← e4]; exact hz)]
      have ek : k + (u + 1) = k + 1 + u := by omega
      obtain ⟨n, a1, a2, a3⟩ := ih (k + 1) _ _ (by rw [← ek]; exact h1) (by rw [← ek]; exact e)
      exact ⟨n, by omega, a2, a3⟩
theorem Eq2.hou {v w : VV} {n : Nat} (h : Eq2 v w n) (e : v.1 3 = nI n) (hn : n ≤ 20) (a : Int32) : ∃ q, q ≤ 20 ∧ (houC a v).1 3 = nI q ∧ Eq2 (houC a v) (houC a w) q := by
  have ew : w.1 3 = nI n := (h.1 3 (by omega)).symm.trans e
  unfold houC
  rw [e, ew, nI_clamp (by omega)]
  obtain ⟨q, h1, h2, h3⟩ := Eq2.mov n 0 (ho1C a v) (ho1C a w) (by rw [Nat.zero_add]; exact h.ho1 a) (by rw [ho1C_3, e, Nat.zero_add])
  exact ⟨q, by omega, h2, h3⟩
theorem Eq2.pas {v w : VV} {n : Nat} (h : Eq2 v w n) (e : v.1 3 = nI n) (hn : n ≤ 20) (a : Int32) : ∀ z, ∃ q, q ≤ 20 ∧ (pasC a v z).1 3 = nI q ∧ Eq2 (pasC a v z) (pasC a w z) q := by
  intro z
  induction z with
  | zero => exact ⟨n, hn, e, h⟩
  | succ z ih =>
    obtain ⟨q, h1, h2, h3⟩ := ih
    exact h3.hou h2 h1 a
theorem Eq2.lon {v w : VV} {n : Nat} (h : Eq2 v w n) : ∀ j, j ≤ n → lonC v j = lonC w j := by
  intro j
  induction j with
  | zero => intro _; rfl
  | succ j ih =>
    intro hj
    unfold lonC
    rw [ih (by omega), h.2.2 j (by omega) 4 (by omega)]
