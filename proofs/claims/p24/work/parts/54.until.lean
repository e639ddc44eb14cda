/-! how long until a wheel has gone round -/
def unR (w a : Int32) : Nat → Nat → (Nat → Int32) → Int32
  | 0, _, _ => -1000006
  | z + 1, o, r => if w ≤ r 5 - r 10 then nI o else unR w a z (o + 1) (catR r a)
theorem unt_row {i : Nat} (a : Int32) : ∀ (z o : Nat) (v : VV), untL i a z o v = unR (v.1 0) a z o (v.2.1 i) := by
  intro z
  induction z with
  | zero => intro o v; rfl
  | succ z ih =>
    intro o v
    unfold untL unR
    rw [ih, cat_eq]
    show (if _ then _ else unR (v.1 0) a z (o + 1) (va_up v.2.1 i (catR (v.2.1 i) a) i)) = _
    rw [va_up_self]
theorem RowE.un (w a : Int32) : ∀ (z o : Nat) (r q : Nat → Int32), RowE r q → unR w a z o r = unR w a z o q := by
  intro z
  induction z with
  | zero => intro o r q _; rfl
  | succ z ih =>
    intro o r q h
    unfold unR
    rw [h 5 (by omega), h 10 (by omega), ih (o + 1) _ _ (h.cat a)]
def htR (w : Int32) (r : Nat → Int32) (a : Int32) (p : Nat) : Prop := w ≤ itR r a p 5 - itR r a p 10
theorem itR_sh (r : Nat → Int32) (a : Int32) : ∀ p, itR (catR r a) a p = itR r a (p + 1) := by
  intro p
  induction p with
  | zero => rfl
  | succ p ih =>
    show catR (itR (catR r a) a p) a = catR (itR r a (p + 1)) a
    rw [ih]
theorem itR_add (r : Nat → Int32) (a : Int32) (q : Nat) : ∀ p, itR (itR r a q) a p = itR r a (q + p) := by
  intro p
  induction p with
  | zero => rfl
  | succ p ih =>
    show catR (itR (itR r a q) a p) a = catR (itR r a (q + p)) a
    rw [ih]
theorem itR_o (r : Nat → Int32) (a : Int32) {k : Nat} (h : k < 4 ∨ 8 ≤ k) : ∀ p, itR r a p k = r k := by
  intro p
  induction p with
  | zero => rfl
  | succ p ih => exact (catR_o _ _ h).trans ih
theorem un_spec (w a : Int32) : ∀ (z o : Nat) (r : Nat → Int32), (∃ p, p < z ∧ htR w r a p ∧ (∀ q, q < p → ¬ htR w r a q) ∧ unR w a z o r = nI (o + p)) ∨ ((∀ p, p < z → ¬ htR w r a p) ∧ unR w a z o r = -1000006) := by
  intro z
  induction z with
  | zero => intro o r; exact Or.inr ⟨fun p hp => absurd hp (Nat.not_lt_zero p), rfl⟩
  | succ z ih =>
    intro o r
    have sh : ∀ p, htR w (catR r a) a p ↔ htR w r a (p + 1) := fun p => by
      unfold htR
      rw [itR_sh]
    unfold unR
    by_cases h0 : w ≤ r 5 - r 10
    · rw [if_pos h0]
      exact Or.inl ⟨0, by omega, h0, fun q hq => absurd hq (Nat.not_lt_zero q), rfl⟩
    · rw [if_neg h0]
      rcases ih (o + 1) (catR r a) with ⟨p, h1, h2, h3, h4⟩ | ⟨h1, h2⟩
      · refine Or.inl ⟨p + 1, by omega, (sh p).mp h2, fun q hq => ?_, h4.trans (congrArg nI (by omega))⟩
        cases q with
        | zero => exact h0
        | succ q => exact fun y => h3 q (by omega) ((sh q).mpr y)
      · refine Or.inr ⟨fun p hp => ?_, h2⟩
        cases p with
        | zero => exact h0
        | succ p => exact fun y => h1 p (by omega) ((sh p).mpr y)
theorem nI_ij {a b : Nat} (ha : a < 2 ^ 31) (hb : b < 2 ^ 31) (h : nI a = nI b) : a = b := by
  have z2 := congrArg Int32.toNatClampNeg h
  rw [nI_clamp ha, nI_clamp hb] at z2
  exact z2
theorem nI_none {p : Nat} (hp : p < 2 ^ 31) : ¬ nI p = -1000006 := fun h => by
  have z := congrArg Int32.toInt h
  rw [nI_ti hp, show (-1000006 : Int32).toInt = -1000006 from rfl] at z
  omega
theorem un_zero (w a : Int32) (r : Nat → Int32) : unR w a 501 0 r = 0 ↔ w ≤ r 5 - r 10 := by
  show (if w ≤ r 5 - r 10 then nI 0 else unR w a 500 1 (catR r a)) = 0 ↔ _
  by_cases h : w ≤ r 5 - r 10
  · rw [if_pos h]; exact ⟨fun _ => h, fun _ => rfl⟩
  · rw [if_neg h]
    refine ⟨fun q => ?_, fun q => absurd q h⟩
    rcases un_spec w a 500 1 (catR r a) with ⟨p, h1, -, -, h4⟩ | ⟨-, h2⟩
    · rw [h4] at q
      have := nI_ij (by omega) (by omega) (b := 0) q
      omega
    · rw [h2] at q
      exact absurd q (by decide)
/-- what fell in p hours, all at once -/
def fI (r : Nat → Int32) (a : Int32) : Int := a.toInt * (r 0).toInt * (r 2).toInt / 100
def tI (r : Nat → Int32) (a : Int32) (p : Nat) : Int := if p = 0 then (r 5).toInt else (r 5).toInt + ((r 4).toInt + (p : Int) * fI r a) / (r 1).toInt
theorem it_int {h : Nat} {r : Nat → Int32} (G : zGA h r) {a : Int32} (a1 : 0 ≤ a.toInt) (a2 : a.toInt ≤ 99) : ∀ p, h + p ≤ 20000 → zGA (h + p) (itR r a p) ∧ (itR r a p 5).toInt = tI r a p ∧ (1 ≤ p → (itR r a p 4).toInt = ((r 4).toInt + (p : Int) * fI r a) % (r 1).toInt) := by
  intro p
  induction p with
  | zero => intro _; exact ⟨G, (if_pos rfl).symm, fun q => absurd q (by omega)⟩
  | succ p ih =>
    intro hp
    obtain ⟨g1, g2, g3⟩ := ih (by omega)
    obtain ⟨F, hF, f1, f2, f3, f4, f5, f6⟩ := cat_int g1 (by omega) a1 a2
    have hF2 : F = fI r a := by
      rw [hF, itR_o r a (Or.inl (by omega)), itR_o r a (Or.inl (by omega))]
      rfl
    have e1 : itR r a p 1 = r 1 := itR_o r a (Or.inl (by omega)) p
    have c1 := G.2.1.1
    rw [e1] at f4 f5
    have en : (((p + 1 : Nat) : Int)) * fI r a = (p : Int) * fI r a + fI r a := by
      rw [show ((p + 1 : Nat) : Int) = (p : Int) + 1 by omega, Int.add_mul, Int.one_mul]
    refine ⟨f6, ?_, fun _ => ?_⟩
    · show (catR (itR r a p) a 5).toInt = _
      rw [f5, g2]
      unfold tI
      rw [if_neg (show ¬ p + 1 = 0 by omega), en, hF2]
      by_cases hp0 : p = 0
      · subst hp0
        rw [if_pos rfl]
        show _ + ((r 4).toInt + fI r a) / _ = _
        rw [show ((0 : Nat) : Int) * fI r a + fI r a = fI r a by rw [show ((0 : Nat) : Int) = 0 from rfl, Int.zero_mul, Int.zero_add]]
      · rw [if_neg hp0, g3 (by omega)]
        obtain ⟨S, hS⟩ : ∃ S : Int, S = (r 4).toInt + (p : Int) * fI r a := ⟨_, rfl⟩
        rw [← hS, show (r 4).toInt + ((p : Int) * fI r a + fI r a) = S + fI r a by omega]
        have q2 : S % (r 1).toInt + S / (r 1).toInt * (r 1).toInt = S := Int.emod_add_ediv_mul S _
        have q3 : (S + fI r a) / (r 1).toInt = (S % (r 1).toInt + fI r a) / (r 1).toInt + S / (r 1).toInt := by
          rw [← Int.add_mul_ediv_right _ _ (show (r 1).toInt ≠ 0 by omega)]
          congr 1
          omega
        omega
    · show (catR (itR r a p) a 4).toInt = _
      rw [f4, en, hF2]
      by_cases hp0 : p = 0
      · subst hp0
        show ((r 4).toInt + fI r a) % _ = _
        rw [show ((0 : Nat) : Int) * fI r a + fI r a = fI r a by rw [show ((0 : Nat) : Int) = 0 from rfl, Int.zero_mul, Int.zero_add]]
      · rw [g3 (by omega), Int.emod_add_emod]
        congr 1
        omega
theorem fI_mono {h : Nat} {r : Nat → Int32} (G : zGA h r) {a b : Int32} (hab : a.toInt ≤ b.toInt) : fI r a ≤ fI r b := by
  obtain ⟨⟨m1, m2⟩, -, ⟨s1, s2⟩, -⟩ := G
  have h1 := Int.mul_le_mul_of_nonneg_right (c := (r 0).toInt) hab (by omega)
  have h2 := Int.mul_le_mul_of_nonneg_right (c := (r 2).toInt) h1 s1
  unfold fI
  omega
theorem tI_mono {h : Nat} {r : Nat → Int32} (G : zGA h r) {a b : Int32} (hab : a.toInt ≤ b.toInt) (p : Nat) : tI r a p ≤ tI r b p := by
  unfold tI
  by_cases hp : p = 0
  · rw [if_pos hp, if_pos hp]; exact Int.le_refl _
  · rw [if_neg hp, if_neg hp]
    have c1 := G.2.1.1
    have h1 := Int.mul_le_mul_of_nonneg_left (c := (p : Int)) (fI_mono G hab) (by omega)
    have h2 := Int.ediv_le_ediv (c := (r 1).toInt) (by omega) (show (r 4).toInt + (p : Int) * fI r a ≤ (r 4).toInt + (p : Int) * fI r b by omega)
    omega
theorem ht_int {h : Nat} {r : Nat → Int32} (G : zGA h r) (r10 : 0 ≤ (r 10).toInt ∧ (r 10).toInt ≤ 1782 * (h : Int)) {w : Nat} (hw : w ≤ 60) {a : Int32} (a1 : 0 ≤ a.toInt) (a2 : a.toInt ≤ 99) (p : Nat) (hp : h + p ≤ 20000) : htR (nI w) r a p ↔ (w : Int) ≤ tI r a p - (r 10).toInt := by
  obtain ⟨g1, g2, -⟩ := it_int G a1 a2 p hp
  obtain ⟨-, -, -, -, d1, t1, t2, p1, p2⟩ := g1
  have e10 : itR r a p 10 = r 10 := itR_o r a (Or.inr (by omega)) p
  unfold htR
  rw [ti_le, nI_ti (by omega), e10, ti_sub (by rw [g2] at *; omega) (by rw [g2] at *; omega), g2]
theorem ht_mono {h : Nat} {r : Nat → Int32} (G : zGA h r) (r10 : 0 ≤ (r 10).toInt ∧ (r 10).toInt ≤ 1782 * (h : Int)) {w : Nat} (hw : w ≤ 60) {a b : Int32} (a1 : 0 ≤ a.toInt) (hab : a.toInt ≤ b.toInt) (b2 : b.toInt ≤ 99) {p : Nat} (hp : h + p ≤ 20000) (H : htR (nI w) r a p) : htR (nI w) r b p := by
  have z := (ht_int G r10 hw a1 (by omega) p hp).mp H
  have z2 := tI_mono G hab p
  exact (ht_int G r10 hw (by omega) b2 p hp).mpr (by omega)
/-- the answers that stand beside each other -/
theorem un_mono {h : Nat} {r : Nat → Int32} (G : zGA h r) (r10 : 0 ≤ (r 10).toInt ∧ (r 10).toInt ≤ 1782 * (h : Int)) (hh : h ≤ 19000) {w : Nat} (hw : w ≤ 60) {a b : Int32} (a1 : 0 ≤ a.toInt) (hab : a.toInt ≤ b.toInt) (b2 : b.toInt ≤ 99) : unR (nI w) a 501 0 r = -1000006 ∨ ∃ p q, q ≤ p ∧ p ≤ 500 ∧ unR (nI w) a 501 0 r = nI p ∧ unR (nI w) b 501 0 r = nI q := by
  rcases un_spec (nI w) a 501 0 r with ⟨p, h1, h2, -, h4⟩ | ⟨-, h2⟩
  · refine Or.inr ?_
    have H := ht_mono G r10 hw a1 hab b2 (by omega) h2
    rcases un_spec (nI w) b 501 0 r with ⟨q, g1, g2, g3, g4⟩ | ⟨g1, -⟩
    · refine ⟨p, q, Nat.le_of_not_lt (fun z => g3 p z H), by omega, ?_, ?_⟩
      · rw [h4, Nat.zero_add]
      · rw [g4, Nat.zero_add]
    · exact absurd H (g1 p h1)
  · exact Or.inl h2
/-- after all but one of the hours, and after all of them -/
theorem un_after {w a : Int32} {r : Nat → Int32} {o : Nat} (ho : o ≤ 500) (e : unR w a 501 0 r = nI (o + 1)) : unR w a 501 0 (itR r a o) = 1 ∧ unR w a 501 0 (itR r a (o + 1)) = 0 := by
  rcases un_spec w a 501 0 r with ⟨p, h1, h2, h3, h4⟩ | ⟨-, h2⟩
  · rw [h4, Nat.zero_add] at e
    have ep := nI_ij (by omega) (by omega) e
    subst ep
    have n0 : ¬ w ≤ itR r a o 5 - itR r a o 10 := h3 o (by omega)
    refine ⟨?_, (un_zero _ _ _).mpr h2⟩
    show (if w ≤ itR r a o 5 - itR r a o 10 then nI 0 else if w ≤ catR (itR r a o) a 5 - catR (itR r a o) a 10 then nI 1 else unR w a 499 2 (catR (catR (itR r a o) a) a)) = 1
    have h2' : w ≤ catR (itR r a o) a 5 - catR (itR r a o) a 10 := h2
    rw [if_neg n0, if_pos h2']
    rfl
  · rw [h2] at e
    exact absurd e.symm (nI_none (by omega))
