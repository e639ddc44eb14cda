/-! values of the valley's methods, as the code has them -/
def expC (v : VV) (i j : Nat) : Int32 := if v.2.1 0 0 ≤ 0 ∨ v.2.1 i 1 ≤ 0 then 0 else (v.2.2 j 3 - v.2.1 i 11) * v.2.1 i 0 / v.2.1 0 0 / v.2.1 i 1
def rouC (v : VV) (m : Int32) : Int32 := if m ≤ 0 ∨ v.1 0 ≤ 0 then 0 else (2 * m + v.1 0 - 1) / (2 * v.1 0)
theorem two_nz {w : Int32} (h : ¬ w ≤ 0) : ¬ 2 * w = 0 := by
  intro q
  have h1 : 0 < w.toInt := by
    have := Int32.lt_iff_toInt_lt.mp (Int32.not_le.mp h)
    simpa using this
  have h2 : w.toInt < 2 ^ 31 := Int32.toInt_lt w
  have h3 := congrArg Int32.toInt q
  rw [Int32.toInt_mul] at h3
  have e2 : (2 : Int32).toInt = 2 := rfl
  have e0 : (0 : Int32).toInt = 0 := rfl
  rw [e2, e0] at h3
  simp only [Int.bmod] at h3
  split at h3 <;> omega
def wen1 (v : VV) (i j : Nat) : Int32 := whC v (v.2.2 j 1) - whC v (v.2.1 i 10)
def wen2 (v : VV) (i j : Nat) : Int32 := if wen1 v i j < 0 then wen1 v i j + v.1 0 else wen1 v i j
def wenC (v : VV) (i j : Nat) : Int32 := if v.1 1 = 1 then wen2 v i j + v.1 0 * rouC v (expC v i j - wen2 v i j) else wen2 v i j
def takC (v : VV) (i j : Nat) : VV :=
  let v1 := vG v i 8 (v.2.1 i 8 + wenC v i j)
  let v2 := vG v1 i 12 (v1.2.1 i 12 + 1)
  let v3 := vG v2 i 9 (v2.2.2 j 2)
  let v4 := vG v3 i 10 (v3.2.2 j 1)
  vG v4 i 11 (v4.2.2 j 3)
def heaT (v : VV) (i j : Nat) : VV :=
  if v.2.2 j 2 < v.2.1 i 9 then vG v i 13 (v.2.1 i 13 + 1)
  else if 0 < v.2.1 i 12 ∧ v.2.2 j 2 = v.2.1 i 9 ∧ whC v (v.2.2 j 1) = whC v (v.2.1 i 10) then vG v i 14 (v.2.1 i 14 + 1)
  else takC v i j
def heaC (v : VV) (j : Nat) : VV := match gxn 6 (v.2.2 j 0) with
  | none => v
  | some i => heaT v i j
def cosC (v : VV) (j : Nat) : VV := match gxn 6 (v.2.2 j 0) with
  | none => v
  | some i => vG v i 15 (v.2.1 i 15 + 1)
def cosL (v : VV) : Nat → VV
  | 0 => v
  | k + 1 => cosC (cosL v k) k
theorem cosC_1 (v : VV) (j : Nat) : (cosC v j).1 = v.1 := by unfold cosC; split <;> rfl
theorem cosC_2 (v : VV) (j : Nat) : (cosC v j).2.2 = v.2.2 := by unfold cosC; split <;> rfl
theorem cosL_1 (v : VV) (k : Nat) : (cosL v k).1 = v.1 := by
  induction k with
  | zero => rfl
  | succ k ih => exact (cosC_1 _ _).trans ih
theorem heaT_1 (v : VV) (i j : Nat) : (heaT v i j).1 = v.1 := by unfold heaT takC; split; rfl; split <;> rfl
theorem heaT_2 (v : VV) (i j : Nat) : (heaT v i j).2.2 = v.2.2 := by unfold heaT takC; split; rfl; split <;> rfl
theorem heaC_1 (v : VV) (j : Nat) : (heaC v j).1 = v.1 := by unfold heaC; split; rfl; exact heaT_1 _ _ _
theorem heaC_2 (v : VV) (j : Nat) : (heaC v j).2.2 = v.2.2 := by unfold heaC; split; rfl; exact heaT_2 _ _ _
/-- rows k .. of a list of n: the row k is taken out, and kept behind the last one -/
def rotN {α : Type} (k n : Nat) (f : Nat → α) : Nat → α := fun j => if j + 1 = n then f k else if k ≤ j ∧ j + 1 < n then f (j + 1) else f j
def rmvC (v : VV) (k n : Nat) : VV := (va_up v.1 3 (nI (n - 1)), v.2.1, rotN k n v.2.2)
theorem rmvC_3 (v : VV) (k n : Nat) : (rmvC v k n).1 3 = nI (n - 1) := by simp [rmvC, va_up]
/-- the array in the midst of it -/
def rhoN {α : Type} (k i : Nat) (f : Nat → α) : Nat → α := fun j => if k ≤ j ∧ j < i then f (j + 1) else f j
theorem rho_0 {α : Type} (k : Nat) (f : Nat → α) : rhoN k k f = f := by
  funext j
  unfold rhoN
  rw [if_neg (by omega)]
theorem rho_up (k i : Nat) (hk : k ≤ i) (π : Nat → Nat) (b : Nat) : va_up (fun j => some (b + 15 + rhoN k i π j)) i (some (b + 15 + π (i + 1))) = fun j => some (b + 15 + rhoN k (i + 1) π j) := by
  funext j
  unfold va_up rhoN
  dsimp only
  by_cases h : j = i
  · subst h
    rw [if_pos rfl, if_pos (by omega)]
  · rw [if_neg h]
    by_cases h2 : k ≤ j ∧ j < i
    · rw [if_pos h2, if_pos (by omega)]
    · rw [if_neg h2, if_neg (by omega)]
theorem rho_end (k n : Nat) (hk : k < n) (π : Nat → Nat) (b : Nat) : va_up (fun j => some (b + 15 + rhoN k (n - 1) π j)) (n - 1) (some (b + 15 + π k)) = fun j => some (b + 15 + rotN k n π j) := by
  funext j
  unfold va_up rhoN rotN
  dsimp only
  by_cases h : j + 1 = n
  · rw [if_pos (by omega), if_pos h]
  · rw [if_neg (by omega), if_neg h]
    by_cases h2 : k ≤ j ∧ j < n - 1
    · rw [if_pos h2, if_pos (by omega)]
    · rw [if_neg h2, if_neg (by omega)]
def rotI (k n j : Nat) : Nat := if j + 1 = n then k else if k ≤ j ∧ j + 1 < n then j + 1 else j
theorem rot_I {α : Type} (k n : Nat) (f : Nat → α) (j : Nat) : rotN k n f j = f (rotI k n j) := by
  unfold rotN rotI
  by_cases h : j + 1 = n
  · rw [if_pos h, if_pos h]
  · rw [if_neg h, if_neg h]
    by_cases h2 : k ≤ j ∧ j + 1 < n
    · rw [if_pos h2, if_pos h2]
    · rw [if_neg h2, if_neg h2]
theorem rotI_lt {k n j : Nat} (hk : k < n) (hn : n ≤ 20) (hj : j < 20) : rotI k n j < 20 := by
  unfold rotI
  by_cases h : j + 1 = n
  · rw [if_pos h]; omega
  · rw [if_neg h]
    by_cases h2 : k ≤ j ∧ j + 1 < n
    · rw [if_pos h2]; omega
    · rw [if_neg h2]; omega
theorem rotI_inj {k n i j : Nat} (hk : k < n) (h : rotI k n i = rotI k n j) : i = j := by
  unfold rotI at h
  by_cases h1 : i + 1 = n
  · rw [if_pos h1] at h
    by_cases h2 : j + 1 = n
    · omega
    · rw [if_neg h2] at h
      by_cases h3 : k ≤ j ∧ j + 1 < n
      · rw [if_pos h3] at h; omega
      · rw [if_neg h3] at h; omega
  · rw [if_neg h1] at h
    by_cases h2 : j + 1 = n
    · rw [if_pos h2] at h
      by_cases h3 : k ≤ i ∧ i + 1 < n
      · rw [if_pos h3] at h; omega
      · rw [if_neg h3] at h; omega
    · rw [if_neg h2] at h
      by_cases h3 : k ≤ i ∧ i + 1 < n
      · rw [if_pos h3] at h
        by_cases h4 : k ≤ j ∧ j + 1 < n
        · rw [if_pos h4] at h; omega
        · rw [if_neg h4] at h; omega
      · rw [if_neg h3] at h
        by_cases h4 : k ≤ j ∧ j + 1 < n
        · rw [if_pos h4] at h; omega
        · rw [if_neg h4] at h; omega
theorem rot_perm {k n : Nat} (hk : k < n) (hn : n ≤ 20) {π : Nat → Nat} (hp : Perm 20 π) : Perm 20 (rotN k n π) := by
  refine ⟨fun j hj => ?_, fun i j hi hj h => ?_⟩
  · rw [rot_I]; exact hp.1 _ (rotI_lt hk hn hj)
  · rw [rot_I, rot_I] at h
    exact rotI_inj hk (hp.2 _ _ (rotI_lt hk hn hi) (rotI_lt hk hn hj) h)
theorem rot_rows {k n : Nat} (hk : k < n) (hn : n ≤ 20) {π : Nat → Nat} {r : Nat → Nat → Int32} : ∀ j, j < 20 → ∃ i, i < 20 ∧ rotN k n π j = π i ∧ rotN k n r j = r i := by
  intro j hj
  unfold rotN
  split
  · exact ⟨k, by omega, rfl, rfl⟩
  · split
    · exact ⟨j + 1, by omega, rfl, rfl⟩
    · exact ⟨j, hj, rfl, rfl⟩
/-- all runners an hour nearer: u of them from the number k on -/
def movC : Nat → Nat → VV → VV
  | 0, _, v => v
  | u + 1, k, v => if v.2.2 k 4 - 1 ≤ 0 then movC u k (rmvC (heaC (vR v k 4 (v.2.2 k 4 - 1)) k) k (k + u + 1)) else movC u (k + 1) (vR v k 4 (v.2.2 k 4 - 1))
theorem movC_n : ∀ (u k : Nat) (v : VV), v.1 3 = nI (k + u) → ∃ n, n ≤ k + u ∧ (movC u k v).1 3 = nI n := by
  intro u
  induction u with
  | zero => intro k v h; exact ⟨k, by omega, h⟩
  | succ u ih =>
    intro k v h
    unfold movC
    split
    · obtain ⟨n, h1, h2⟩ := ih k (rmvC (heaC (vR v k 4 (v.2.2 k 4 - 1)) k) k (k + u + 1)) (by rw [rmvC_3]; rfl)
      exact ⟨n, by omega, h2⟩
    · obtain ⟨n, h1, h2⟩ := ih (k + 1) (vR v k 4 (v.2.2 k 4 - 1)) (by show v.1 3 = _; rw [h]; congr 1; omega)
      exact ⟨n, by omega, h2⟩
def catL (am : Int32) (v : VV) : Nat → VV
  | 0 => v
  | i + 1 => catC (catL am v i) i am
def tisL (am : Int32) (v : VV) (t : Int32) : Nat → Int32
  | 0 => t
  | i + 1 => tisL am v t i + tipC (catL am v i) i am
theorem catL_1 (am : Int32) (v : VV) (k : Nat) : (catL am v k).1 = v.1 := by
  induction k with
  | zero => rfl
  | succ k ih => exact ih
theorem catL_2 (am : Int32) (v : VV) (k : Nat) : (catL am v k).2.2 = v.2.2 := by
  induction k with
  | zero => rfl
  | succ k ih => exact ih
def ho1C (am : Int32) (v : VV) : VV := vW (catL am v 6) 2 ((catL am v 6).1 2 + 1)
theorem ho1C_3 (am : Int32) (v : VV) : (ho1C am v).1 3 = v.1 3 := by simp [ho1C, va_up, catL_1]
def houC (am : Int32) (v : VV) : VV := movC (v.1 3).toNatClampNeg 0 (ho1C am v)
def pasC (am : Int32) (v : VV) : Nat → VV
  | 0 => v
  | q + 1 => houC am (pasC am v q)
def pasT (am : Int32) (v : VV) : Nat → Int32
  | 0 => 0
  | q + 1 => tisL am (pasC am v q) (pasT am v q) 6
def OnW (v : VV) : Prop := ∃ n, n ≤ 20 ∧ v.1 3 = nI n
theorem houC_on {am : Int32} {v : VV} (h : OnW v) : OnW (houC am v) := by
  obtain ⟨n, hn, e⟩ := h
  have e1 : (v.1 3).toNatClampNeg = n := by rw [e]; exact nI_clamp (by omega)
  obtain ⟨k, hk, e2⟩ := movC_n n 0 (ho1C am v) (by rw [ho1C_3, e]; congr 1; omega)
  exact ⟨k, by omega, by unfold houC; rw [e1]; exact e2⟩
theorem pasC_on {am : Int32} {v : VV} (h : OnW v) (q : Nat) : OnW (pasC am v q) := by
  induction q with
  | zero => exact h
  | succ q ih => exact houC_on ih
/-- the row of one who is sent -/
def seR (v : VV) (i n : Nat) : VV :=
  let v0 := vW v 3 (nI n + 1)
  let v1 := vR v0 n 0 (nI i)
  let v2 := vR v1 n 1 (v1.2.1 i 5)
  let v3 := vR v2 n 2 (v2.1 2)
  let v4 := vR v3 n 3 (v3.2.1 0 6)
  vR v4 n 4 (v4.2.1 i 3)
def senC (v : VV) (i n : Nat) : VV := if (seR v i n).2.2 n 4 = 0 then rmvC (heaC (seR v i n) n) n (n + 1) else seR v i n
def twiC (v : VV) (j n : Nat) : VV :=
  let v0 := vW v 3 (nI n + 1)
  let v1 := vR v0 n 0 (v0.2.2 j 0)
  let v2 := vR v1 n 1 (v1.2.2 j 1)
  let v3 := vR v2 n 2 (v2.2.2 j 2)
  let v4 := vR v3 n 3 (v3.2.2 j 3)
  let v5 := vR v4 n 4 (v4.2.2 j 4)
  vR v5 n 4 (v5.2.2 n 4 + 1)
def lonC (v : VV) : Nat → Int32
  | 0 => 0
  | j + 1 => if lonC v j < v.2.2 j 4 then v.2.2 j 4 else lonC v j
def facC (v : VV) (i : Nat) (w : Int32) : Int32 :=
  if w = 0 then v.2.1 i 0 else if w = 1 then v.2.1 i 1 else if w = 2 then v.2.1 i 2 else if w = 3 then v.2.1 i 3 else if w = 4 then v.2.1 i 4 else if w = 5 then v.2.1 i 5 else if w = 6 then whC v (v.2.1 i 5) else if w = 7 then v.2.1 i 6 else if w = 8 then v.2.1 i 7 else (-1000002)
def sumN (f : Nat → Int32) : Nat → Int32
  | 0 => 0
  | i + 1 => sumN f i + f i
def gapN (v : VV) : Nat → Int32
  | 0 => 0
  | i + 1 => if v.2.1 i 5 - v.2.1 i 8 = 0 then gapN v i else gapN v i + 1
/-- the copy: rows beyond those on the way stay -/
def cpG (f h : Nat → Int32) : Nat → Int32 := fun k => if k < 16 then h k else f k
def cpR (f h : Nat → Int32) : Nat → Int32 := fun k => if k < 5 then h k else f k
def cpW (f h : Nat → Int32) : Nat → Int32 := fun k => if k < 4 then h k else f k
def mixN {α β : Type} (F : α → β → α) (k : Nat) (f : Nat → α) (h : Nat → β) : Nat → α := fun i => if i < k then F (f i) (h i) else f i
theorem mixN_up {α β : Type} (F : α → β → α) (k : Nat) (f : Nat → α) (h : Nat → β) : mixN F (k + 1) f h = va_up (mixN F k f h) k (F (mixN F k f h k) (h k)) := by
  funext i
  unfold mixN va_up
  dsimp only
  by_cases h1 : i = k
  · subst h1
    rw [if_pos (by omega), if_pos rfl, if_neg (by omega)]
  · rw [if_neg h1]
    by_cases h2 : i < k
    · rw [if_pos h2, if_pos (by omega)]
    · rw [if_neg h2, if_neg (by omega)]
theorem mixN_0 {α β : Type} (F : α → β → α) (f : Nat → α) (h : Nat → β) : mixN F 0 f h = f := by
  funext i
  exact if_neg (by omega)
theorem cpW_eq (f h : Nat → Int32) : cpW f h = va_up (va_up (va_up (va_up f 0 (h 0)) 1 (h 1)) 2 (h 2)) 3 (h 3) := by
  funext k
  unfold cpW va_up
  by_cases h0 : k < 4
  · rw [if_pos h0]
    rcases (by omega : k = 0 ∨ k = 1 ∨ k = 2 ∨ k = 3) with rfl | rfl | rfl | rfl <;> simp
  · rw [if_neg h0]
    simp only [show ¬ k = 0 by omega, show ¬ k = 1 by omega, show ¬ k = 2 by omega, show ¬ k = 3 by omega, if_false]
def cpyC (v w : VV) (n : Nat) : VV := (cpW v.1 w.1, mixN cpG 6 v.2.1 w.2.1, mixN cpR n v.2.2 w.2.2)
def chgC (v : VV) (n : Nat) (x : Int32) : VV := vW (vW (cosL v n) 3 (nI 0)) 0 x
theorem nI_lt_of {a b : Nat} (ha : a < 2 ^ 31) (hb : b < 2 ^ 31) (h : ¬ nI b ≤ nI a) : a < b := Nat.lt_of_not_le (fun q => h ((nI_leI hb ha).mpr q))
theorem nI_le_of {a b : Nat} (ha : a < 2 ^ 31) (hb : b < 2 ^ 31) (h : nI b ≤ nI a) : b ≤ a := (nI_leI hb ha).mp h
theorem facC_out {v : VV} {i : Nat} {w : Int32} (h : w.toInt < 0 ∨ 8 < w.toInt) : facC v i w = -1000002 := by
  have hne : ∀ k : Int32, 0 ≤ k.toInt → k.toInt ≤ 8 → ¬ w = k := fun k h1 h2 q => by subst q; omega
  unfold facC
  rw [if_neg (hne 0 (by decide) (by decide)), if_neg (hne 1 (by decide) (by decide)), if_neg (hne 2 (by decide) (by decide)), if_neg (hne 3 (by decide) (by decide)), if_neg (hne 4 (by decide) (by decide)), if_neg (hne 5 (by decide) (by decide)), if_neg (hne 6 (by decide) (by decide)), if_neg (hne 7 (by decide) (by decide)), if_neg (hne 8 (by decide) (by decide))]
theorem sw_ix (lo hi : Int) {x : Int32} (h : ¬ (x.toInt < lo ∨ hi < x.toInt)) : lo ≤ x.toInt ∧ x.toInt ≤ hi := by omega

