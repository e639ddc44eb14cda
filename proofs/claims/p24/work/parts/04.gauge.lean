/-! answers and values of the gauges' and the valley's methods, as the code has them -/
def gxn (n : Nat) (x : Int32) : Option Nat := if x < 0 ∨ n ≤ x.toNatClampNeg then none else some x.toNatClampNeg
theorem gxn_cases {n : Nat} (hn : n < 2 ^ 31) (x : Int32) : (gxn n x = none ∧ (x < 0 ∨ nI n ≤ x)) ∨ ∃ i, i < n ∧ x = nI i ∧ gxn n x = some i := by
  rcases pk_ix x hn with h | h | ⟨j, hj, rfl⟩
  · exact Or.inl ⟨by unfold gxn; rw [if_pos (Or.inl h)], Or.inl h⟩
  · refine Or.inl ⟨?_, Or.inr h⟩
    unfold gxn
    by_cases h0 : x < 0
    · rw [if_pos (Or.inl h0)]
    · obtain ⟨j, hj, rfl⟩ := nI_of h0
      rw [if_pos (Or.inr ?_)]
      rw [nI_clamp hj]
      exact (nI_leI hn hj).mp h
  · exact Or.inr ⟨j, hj, rfl, by unfold gxn; rw [if_neg (fun q => vp_in_nI hj hn q), nI_clamp (by omega)]⟩
def fellC (v : VV) (i : Nat) (am : Int32) : Int32 := am * v.2.1 i 0 * v.2.1 i 2 / 100
def tipC (v : VV) (i : Nat) (am : Int32) : Int32 := if 0 < v.2.1 i 1 then (v.2.1 i 4 + fellC v i am) / v.2.1 i 1 else 0
def catT (v : VV) (i : Nat) (f t : Int32) : VV :=
  let v1 := vG v i 6 (v.2.1 i 6 + f)
  let v2 := vG v1 i 4 (v1.2.1 i 4 + f)
  let v3 := vG v2 i 4 (v2.2.1 i 4 - t * v2.2.1 i 1)
  let v4 := vG v3 i 7 (v3.2.1 i 7 + t * v3.2.1 i 1)
  vG v4 i 5 (v4.2.1 i 5 + t)
def catC (v : VV) (i : Nat) (am : Int32) : VV := catT v i (fellC v i am) (tipC v i am)
theorem catch_end {g : GG} {A : Nat → Prop} {M0 M1 : MM} {b : Nat} {π : Nat → Nat} {v : VV} {i : Nat} {am f t : Int32} (hf : f = fellC v i am) (ht : t = tipC v i am) (hR : RepV g A M1 b π (catT v i f t)) (hF : FrV b M0 M1) : t = tipC v i am ∧ RepV g A M1 b π (catC v i am) ∧ FrV b M0 M1 := by
  subst hf
  subst ht
  exact ⟨rfl, hR, hF⟩
theorem Int32_nle {x y : Int32} : ¬ x ≤ y ↔ y < x := Int32.not_le
theorem Int32_nlt {x y : Int32} : ¬ x < y ↔ y ≤ x := Int32.not_lt
theorem c_nz {x : Int32} (h : ¬ x ≤ 0) : ¬ x = 0 := fun q => h (by rw [q]; decide)
theorem ite10 {P : Prop} [Decidable P] : ((if P then (1 : Int32) else 0) = 0) ↔ ¬ P := by
  by_cases h : P
  · simp [h]
  · simp [h]
def whC (v : VV) (t : Int32) : Int32 := if 0 < v.1 0 then t - t / v.1 0 * v.1 0 else 0

