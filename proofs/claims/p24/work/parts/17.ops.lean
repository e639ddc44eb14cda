def putF (x : Int64) (q : Nat) (f : Nat → Int32) (L : Nat) : Nat → Nat → Int32
  | 0 => f
  | b + 1 => va_up (putF x q f L b) (L + b) (vp_nar .char ((codC x (nI (q - 1 - b))).toUInt32 % 65536).toInt32)
theorem putF_s {x : Int64} {q : Nat} {f : Nat → Int32} {L b r : Nat} (h : r = q - 1 - b) : putF x q f L (b + 1) = va_up (putF x q f L b) (L + b) (vp_nar .char ((codC x (nI r)).toUInt32 % 65536).toInt32) := by
  subst h
  rfl
def oPut (c : CS) (x : Int64) : Int32 × CS := if chC x = 0 then (-1000002, c) else if ¬ nI c.2.2.2.2.2.2 + chC x ≤ 60 then (-1000004, c) else
  (nI (c.2.2.2.2.2.2 + (chC x).toNatClampNeg), c.1, c.2.1, c.2.2.1, c.2.2.2.1, c.2.2.2.2.1, putF x (chC x).toNatClampNeg c.2.2.2.2.2.1 c.2.2.2.2.2.2 (chC x).toNatClampNeg, c.2.2.2.2.2.2 + (chC x).toNatClampNeg)
theorem chC_q (x : Int64) : ∃ q, q ≤ 8 ∧ chC x = nI q := by
  unfold chC
  split
  · exact ⟨0, by omega, rfl⟩
  · rename_i p h
    have := chW_le x 8 0 p h
    split
    · exact ⟨p, by omega, rfl⟩
    · exact ⟨0, by omega, rfl⟩
def obeS (v : VV) (i : Nat) : Int32 × VV := if onN v < 20 then (if whC (senC v i (onN v)) ((senC v i (onN v)).2.1 i 5) < 0 then 0 else 1, senC v i (onN v)) else (0, v)
theorem obeS_a {v : VV} {i n : Nat} (hN : onN v = n) (h : n < 20) : obeS v i = (if whC (senC v i n) ((senC v i n).2.1 i 5) < 0 then 0 else 1, senC v i n) := by unfold obeS; rw [hN, if_pos h]
theorem obeS_b {v : VV} {i n : Nat} (hN : onN v = n) (h : ¬ n < 20) : obeS v i = (0, v) := by unfold obeS; rw [hN, if_neg h]
def obeR (v : VV) (x y : Int32) : Int32 × VV := if ¬ v.1 2 + y ≤ 9999 then (0, v) else (1, pasC x v y.toNatClampNeg)
def obeV (v : VV) (o : Bool × Nat × Int32 × Int32 × Int32) : Int32 × VV := if o.2.2.1 = 115 then obeS v o.2.2.2.1.toNatClampNeg else obeR v o.2.2.2.1 o.2.2.2.2
def runL (f : Nat → Int32) (L : Nat) : Nat → Nat → Int32 → VV → Int32 × VV
  | 0, _, d, v => (d, v)
  | z + 1, q, d, v => if (ordC f L q).1 = true then runL f L z ((ordC f L q).2.1 + 1) (if (obeV v (ordC f L q)).1 = 0 then d else d + 1) (obeV v (ordC f L q)).2 else (d, v)
def oRun (c : CS) : Int32 × CS := match fauC c.2.2.2.2.2.1 c.2.2.2.2.2.2 60 0 with
  | some _ => (-1000003, c)
  | none =>
    let r := runL c.2.2.2.2.2.1 c.2.2.2.2.2.2 60 0 0 c.1
    (r.1, r.2, recV c.2.2.1 c.2.1 c.1 (onN c.1), recK c.2.2.1, c.2.2.2.1, c.2.2.2.2.1, c.2.2.2.2.2.1, 0)
theorem oRun_b {c : CS} (h : ¬ fauC c.2.2.2.2.2.1 c.2.2.2.2.2.2 60 0 = none) : oRun c = (-1000003, c) := by
  unfold oRun
  split
  · rfl
  · rename_i z; exact absurd z h
theorem oRun_y {c : CS} (h : fauC c.2.2.2.2.2.1 c.2.2.2.2.2.2 60 0 = none) {d : Int32} {v : VV} (h2 : runL c.2.2.2.2.2.1 c.2.2.2.2.2.2 60 0 0 c.1 = (d, v)) : oRun c = (d, v, recV c.2.2.1 c.2.1 c.1 (onN c.1), recK c.2.2.1, c.2.2.2.1, c.2.2.2.2.1, c.2.2.2.2.2.1, 0) := by
  unfold oRun
  rw [h, h2]
theorem fauC_b (f : Nat → Int32) (L : Nat) : ∀ (z q r : Nat), fauC f L z q = some r → r ≤ q + 7 * z + 7 := by
  intro z
  induction z with
  | zero => intro q r h; cases h; omega
  | succ z ih =>
    intro q r h
    have h6 := ordC_q f L q
    unfold fauC at h
    split at h
    · split at h
      · cases h
      · split at h
        · have := ih _ _ h; omega
        · cases h; omega
    · cases h; omega
theorem fau_none {f : Nat → Int32} {L : Nat} (h : (match fauC f L 60 0 with | none => -1000006 | some q => nI q) = (-1000006 : Int32)) : fauC f L 60 0 = none := by
  cases e : fauC f L 60 0 with
  | none => rfl
  | some q =>
    rw [e] at h
    have hb := fauC_b f L 60 0 q e
    exfalso
    have h2 : ¬ nI q < 0 := nI_pos (by omega)
    rw [show nI q = -1000006 from h] at h2
    exact h2 (by decide)
theorem run_s {f : Nat → Int32} {L o q : Nat} {d : Int32} {v : VV} (ho : o < 60) : runL f L (60 - o) q d v = if (ordC f L q).1 = true then runL f L (60 - (o + 1)) ((ordC f L q).2.1 + 1) (if (obeV v (ordC f L q)).1 = 0 then d else d + 1) (obeV v (ordC f L q)).2 else (d, v) := by
  rw [show 60 - o = (60 - (o + 1)) + 1 by omega]
  rfl
theorem run_0 {f : Nat → Int32} {L o q : Nat} {d : Int32} {v : VV} (h : 60 ≤ o) (h2 : o ≤ 60) : runL f L (60 - o) q d v = (d, v) := by
  rw [show 60 - o = 0 by omega]
  rfl
theorem run_1 {f : Nat → Int32} {L o q : Nat} {d : Int32} {v : VV} (h : o < 60) (ok : ¬ (ordC f L q).1 = true) : runL f L (60 - o) q d v = (d, v) := by rw [run_s h, if_neg ok]
theorem run_y {f : Nat → Int32} {L o q : Nat} {d : Int32} {v : VV} (h : o < 60) (ok : (ordC f L q).1 = true) (c : ¬ (obeV v (ordC f L q)).1 = 0) : runL f L (60 - (o + 1)) ((ordC f L q).2.1 + 1) (d + 1) (obeV v (ordC f L q)).2 = runL f L (60 - o) q d v := by rw [run_s h, if_pos ok, if_neg c]
theorem run_n {f : Nat → Int32} {L o q : Nat} {d : Int32} {v : VV} (h : o < 60) (ok : (ordC f L q).1 = true) (c : (obeV v (ordC f L q)).1 = 0) : runL f L (60 - (o + 1)) ((ordC f L q).2.1 + 1) d (obeV v (ordC f L q)).2 = runL f L (60 - o) q d v := by rw [run_s h, if_pos ok, if_pos c]
theorem rnC_rng {f : Nat → Int32} {L q : Nat} {lo hi : Int32} (h : 0 ≤ (rnC f L q lo hi).1) (hh : 0 ≤ hi) : (rnC f L q lo hi).1 ≤ hi := by
  unfold rnC at h ⊢
  split
  · exact Int32.le_trans (show (-1 : Int32) ≤ 0 by decide) hh
  · rename_i c1
    split
    · exact Int32.not_lt.mp (fun z => c1 (Or.inr z))
    · split
      · exact Int32.le_trans (show (-1 : Int32) ≤ 0 by decide) hh
      · rename_i c3
        exact Int32.not_lt.mp c3
theorem ord_cases {f : Nat → Int32} {L q : Nat} (ok : (ordC f L q).1 = true) : ((ordC f L q).2.2.1 = 115 ∧ ∃ i, i < 6 ∧ (ordC f L q).2.2.2.1 = nI i) ∨ ((ordC f L q).2.2.1 = 114 ∧ ∃ i, i ≤ 24 ∧ (ordC f L q).2.2.2.2 = nI i) := by
  by_cases h1 : sgC f L q = 114
  · right
    rw [ord_r h1] at ok ⊢
    refine ⟨rfl, ?_⟩
    unfold raiC at ok ⊢
    split at ok
    · cases ok
    · rename_i c
      rw [if_neg c]
      have h0 := of_decide_eq_true ok
      obtain ⟨j, hj, e, -⟩ := clampQ (hi := 24) (n := 24) h0 (rnC_rng h0 (by decide)) rfl (by decide)
      exact ⟨j, hj, e⟩
  · by_cases h2 : sgC f L q = 115
    · left
      rw [ord_s h2] at ok ⊢
      have h0 := of_decide_eq_true ok
      obtain ⟨j, hj, e, -⟩ := clampQ (hi := 5) (n := 5) h0 (rnC_rng h0 (by decide)) rfl (by decide)
      exact ⟨rfl, j, by omega, e⟩
    · rw [ord_n h1 h2] at ok
      cases ok
theorem obeV_s {v : VV} {o : Bool × Nat × Int32 × Int32 × Int32} {i : Nat} (h : o.2.2.1 = 115) (h2 : o.2.2.2.1 = nI i) (hi : i < 6) : obeV v o = obeS v i := by
  unfold obeV
  rw [if_pos h, h2, nI_clamp (by omega)]
theorem obeV_r {v : VV} {o : Bool × Nat × Int32 × Int32 × Int32} (h : o.2.2.1 = 114) : obeV v o = obeR v o.2.2.2.1 o.2.2.2.2 := by
  unfold obeV
  rw [if_neg (by rw [h]; decide)]
theorem seR_3 (v : VV) (i n : Nat) : (seR v i n).1 3 = nI (n + 1) := by simp [seR, va_up, nI_1]
theorem senC_on {v : VV} {i n : Nat} (h : n < 20) : OnW (senC v i n) := by
  unfold senC
  split
  · exact ⟨n, by omega, by rw [rmvC_3]; rfl⟩
  · exact ⟨n + 1, by omega, seR_3 v i n⟩
theorem obeV_on {v : VV} {o : Bool × Nat × Int32 × Int32 × Int32} (h : OnW v) : OnW (obeV v o).2 := by
  unfold obeV
  split
  · unfold obeS
    split
    · rename_i z; exact senC_on z
    · exact h
  · unfold obeR
    split
    · exact h
    · exact pasC_on h _
theorem recK_le {k : Nat} (h : k ≤ 6) : recK k ≤ 6 := by
  unfold recK
  split <;> omega
theorem recV_on {k : Nat} {hs : Nat → VV} {w : VV} {n : Nat} (h : ∀ i, i < 6 → OnW (hs i)) (hw : OnW w) (hk : k ≤ 6) : ∀ i, i < 6 → OnW (recV k hs w n i) := by
  intro i hi
  unfold recV
  have h0 : ∀ j, j < 6 → OnW (rotN 0 6 hs j) := by
    intro j hj
    rw [rot_I]
    exact h _ (by unfold rotI; split; omega; split <;> omega)
  obtain ⟨m, hm, e⟩ := hw
  by_cases hk6 : k = 6
  · rw [if_pos hk6, if_pos hk6]
    by_cases hi5 : i = 5
    · rw [hi5, va_up_self]; exact ⟨m, hm, e⟩
    · rw [va_up_ne _ _ hi5]; exact h0 i hi
  · rw [if_neg hk6, if_neg hk6]
    by_cases hik : i = k
    · rw [hik, va_up_self]; exact ⟨m, hm, e⟩
    · rw [va_up_ne _ _ hik]; exact h i hi
theorem dec_eq (x : Int32) : x + Int32.ofInt (-1) = x - 1 := by
  rw [Int32.sub_eq_add_neg]
  rfl
theorem RXS.of {g : GG} {A : Nat → Prop} {M0 M : MM} {X : Nat} {π : Nat → Nat} {now : VV} {hs : Nat → VV} {k : Nat} {sl : Nat → VV} {sv f : Nat → Int32} {L : Nat} (h : RX g A M0 M X π now hs k sl sv f L) : RXS g A M M X (now, hs, k, sl, sv, f, L) := ⟨π, h.1, FrX.rf⟩
