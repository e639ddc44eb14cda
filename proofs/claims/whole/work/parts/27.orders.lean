/-! orders as the model reads them -/
section
variable {f : Nat → Int32} {L q : Nat}
theorem win_eq {x : Int32} {a : Nat} (h : ¬ winC x (nI a) (nI a) = 0) : x = nI a := Int32.le_antisymm (win_of h).2 (win_of h).1
theorem win_ne {x : Int32} {a : Nat} (h : winC x (nI a) (nI a) = 0) : ¬ x = nI a := fun z => by
  rw [z] at h
  unfold winC at h
  rw [if_pos ⟨Int32.le_refl _, Int32.le_refl _⟩] at h
  exact absurd h (by decide)
theorem win_self {a : Nat} {x : Int32} (h : x = nI a) : ¬ winC x (nI a) (nI a) = 0 := fun z => win_ne z h
theorem dig2 (f : Nat → Int32) (L q : Nat) : dgC f L q = -1 ∨ ∃ d, d ≤ 9 ∧ q < L ∧ sgC f L q = nI (48 + d) ∧ dgC f L q = nI d := by
  by_cases h : winC (sgC f L q) (nI (48 + 0)) (nI 57) = 0
  · exact Or.inl (dg_bad h)
  · have hq := sg_lt (a := 48 + 0) (by omega) (by omega) h
    obtain ⟨d, h1, h2, h3, h4⟩ := dig_of hq (by omega) h
    exact Or.inr ⟨d, h2, hq, h3, h4⟩
theorem dig_n59 {d : Nat} (h : sgC f L q = nI (48 + d)) (hd : d ≤ 9) : ¬ sgC f L q = 59 := fun z => by
  have := (nI_eq (a := 48 + d) (b := 59) (by omega) (by omega)).mp (h.symm.trans z)
  omega
theorem rn_nu2 {lo hi d : Nat} (e : dgC f L q = nI d) (hd : d ≤ 9) (h1 : lo ≤ d) (h2 : d ≤ hi) (h3 : hi ≤ 99) : (rnC f L q (nI lo) (nI hi) = nuM f L q (nI hi) ∧ 0 ≤ (nuM f L q (nI hi)).1) ∨ (rnC f L q (nI lo) (nI hi) = (-1, q + 1) ∧ (nuM f L q (nI hi)).2 = q + 1 ∧ q + 1 < L ∧ ¬ sgC f L (q + 1) = 59 ∧ hi < 99) := by
  have c1 : ¬ dgC f L q < nI lo := by rw [e]; exact nI_nlt h1 (by omega)
  have c2 : dgC f L q ≤ nI hi := by rw [e]; exact nI_le h2 (by omega)
  have p0 : 0 ≤ nI d := nI_pos' (by omega)
  rcases dig2 f L (q + 1) with m | ⟨d2, k1, k2, k3, k4⟩
  · left
    rw [nu_o e m, rn_d c1 c2 (by rw [m]; decide), e]
    exact ⟨rfl, p0⟩
  · by_cases hz : d = 0
    · left
      rw [nu_z e hz, rn_c c1 c2 (by rw [e, hz]; rfl), e]
      exact ⟨rfl, p0⟩
    · have c3 : ¬ dgC f L q = 0 := by rw [e]; exact nI_ne0 (by omega) (by omega)
      have c4 : 0 ≤ dgC f L (q + 1) := by rw [k4]; exact nI_pos' (by omega)
      have es : 10 * nI d + nI d2 = nI (10 * d + d2) := by rw [show (10 : Int32) = nI 10 from rfl, pk_mul, nI_add]
      by_cases hb : 10 * d + d2 ≤ hi
      · left
        rw [nu_2 e k4 hz (by rw [es]; exact nI_nlt hb (by omega)), rn_f c1 c2 c3 c4 (by rw [e, k4, es]; exact nI_le hb (by omega)), e, k4, es]
        exact ⟨rfl, nI_pos' (by omega)⟩
      · right
        rw [nu_1 e k4 (by rw [es]; exact nI_lt (by omega) (by omega)), rn_e c1 c2 c3 c4 (by rw [e, k4, es]; exact nI_ge (by omega) (by omega))]
        exact ⟨rfl, rfl, k2, dig_n59 k3 k1, by omega⟩
abbrev ordF (f : Nat → Int32) (L q : Nat) (w : Int32) : Prop := (w = 0 ∨ w = nI 1) ∧ ((ordC f L q).1 = true → w = 0) ∧ (¬ (ordC f L q).1 = true → w = 0 → (ordC f L q).2.1 < L ∧ ¬ sgC f L (ordC f L q).2.1 = 59)
theorem ordF_bad (h : (ordC f L q).1 = false) : ordF f L q (nI 1) := ⟨Or.inr rfl, fun z => absurd (h.symm.trans z) Bool.false_ne_true, fun _ z => absurd z (by decide)⟩
theorem ordF_ok (h : (ordC f L q).1 = true) : ordF f L q (nI 0) := ⟨Or.inl rfl, fun _ => rfl, fun z => absurd h z⟩
theorem ordF_dig (h2 : (ordC f L q).2.1 < L) (h3 : ¬ sgC f L (ordC f L q).2.1 = 59) : ordF f L q (nI 0) := ⟨Or.inl rfl, fun _ => rfl, fun _ _ => ⟨h2, h3⟩⟩
theorem rn_bad0 {hi : Int32} (h : winC (sgC f L q) (nI (48 + 0)) (nI 57) = 0) : rnC f L q 0 hi = (-1, q) := rn_a (by rw [dg_bad h]; decide)
theorem rn_bad1 {hi : Int32} (h : winC (sgC f L q) (nI (48 + 1)) (nI 57) = 0) : rnC f L q 1 hi = (-1, q) := rn_a (by
  rcases dig2 f L q with m | ⟨d, k1, k2, k3, k4⟩
  · rw [m]; decide
  · rw [k4]
    have hd : d = 0 := Classical.byContradiction (fun z => by
      unfold winC at h
      rw [k3, if_pos ⟨nI_le (by omega) (by omega), nI_le (by omega) (by omega)⟩] at h
      exact absurd h (by decide))
    rw [hd]; decide)
theorem rn_bad5 (h : winC (sgC f L q) (nI 48) (nI 53) = 0) : rnC f L q 0 5 = (-1, q) := by
  rcases dig2 f L q with m | ⟨d, k1, k2, k3, k4⟩
  · exact rn_a (by rw [m]; decide)
  · refine rn_b (fun z => ?_)
    rw [k4] at z
    have hd := nI_le_of (b := d) (a := 5) (by omega) (by omega) z
    unfold winC at h
    rw [k3, if_pos ⟨nI_le (by omega) (by omega), nI_le (by omega) (by omega)⟩] at h
    exact absurd h (by decide)
/-- the amount -/
theorem rn99 (hA : ¬ winC (sgC f L q) (nI (48 + 0)) (nI 57) = 0) : rnC f L q 0 99 = nuM f L q (nI 99) ∧ 0 ≤ (nuM f L q (nI 99)).1 := by
  obtain ⟨d, h1, h2, h3, h4⟩ := dig_of (sg_lt (by omega) (by omega) hA) (by omega) hA
  rcases rn_nu2 (lo := 0) (hi := 99) h4 h2 (by omega) (by omega) (by omega) with h | h
  · exact h
  · exact absurd h.2.2.2.2 (by omega)
theorem rn24 (hC : ¬ winC (sgC f L q) (nI (48 + 1)) (nI 57) = 0) : (rnC f L q 1 24 = nuM f L q (nI 24) ∧ 0 ≤ (nuM f L q (nI 24)).1) ∨ (rnC f L q 1 24 = (-1, q + 1) ∧ (nuM f L q (nI 24)).2 = q + 1 ∧ q + 1 < L ∧ ¬ sgC f L (q + 1) = 59) := by
  obtain ⟨d, h1, h2, h3, h4⟩ := dig_of (sg_lt (by omega) (by omega) hC) (by omega) hC
  rcases rn_nu2 (lo := 1) (hi := 24) h4 h2 (by omega) (by omega) (by omega) with h | h
  · exact Or.inl h
  · exact Or.inr ⟨h.1, h.2.1, h.2.2.1, h.2.2.2.1⟩
abbrev pA (f : Nat → Int32) (L q : Nat) : Nat := (nuM f L (q + 1) (nI 99)).2
theorem of_A (h : sgC f L q = nI 114) (hA : winC (sgC f L (q + 1)) (nI (48 + 0)) (nI 57) = 0) : (ordC f L q).1 = false ∧ (ordC f L q).2.1 = q + 1 := by
  have e := rn_bad0 (hi := 99) hA
  rw [ord_r h, rai_1 (r1 := -1) (by rw [e]) (by decide), e]
  exact ⟨rfl, rfl⟩
theorem of_B (h : sgC f L q = nI 114) (hA : ¬ winC (sgC f L (q + 1)) (nI (48 + 0)) (nI 57) = 0) (hB : winC (sgC f L (pA f L q)) (nI 104) (nI 104) = 0) : (ordC f L q).1 = false ∧ (ordC f L q).2.1 = pA f L q := by
  have e := (rn99 hA).1
  rw [ord_r h, rai_2 (by rw [e]; exact win_ne hB), e]
  exact ⟨rfl, rfl⟩
theorem rai_y (hA : ¬ winC (sgC f L (q + 1)) (nI (48 + 0)) (nI 57) = 0) (hB : ¬ winC (sgC f L (pA f L q)) (nI 104) (nI 104) = 0) : raiC f L (q + 1) = (decide (0 ≤ (rnC f L (pA f L q + 1) 1 24).1), (rnC f L (pA f L q + 1) 1 24).2, (nuM f L (q + 1) (nI 99)).1, (rnC f L (pA f L q + 1) 1 24).1) := by
  obtain ⟨e, h0⟩ := rn99 hA
  rw [rai_3 (r1 := (rnC f L (q + 1) 0 99).1) rfl (by rw [e]; exact Int32.not_lt.mpr h0) (by rw [e]; exact win_eq hB), e]
theorem of_C (h : sgC f L q = nI 114) (hA : ¬ winC (sgC f L (q + 1)) (nI (48 + 0)) (nI 57) = 0) (hB : ¬ winC (sgC f L (pA f L q)) (nI 104) (nI 104) = 0) (hC : winC (sgC f L (pA f L q + 1)) (nI (48 + 1)) (nI 57) = 0) : (ordC f L q).1 = false ∧ (ordC f L q).2.1 = pA f L q + 1 := by
  rw [ord_r h, rai_y hA hB, rn_bad1 hC]
  exact ⟨rfl, rfl⟩
theorem of_D (h : sgC f L q = nI 114) (hA : ¬ winC (sgC f L (q + 1)) (nI (48 + 0)) (nI 57) = 0) (hB : ¬ winC (sgC f L (pA f L q)) (nI 104) (nI 104) = 0) (hC : ¬ winC (sgC f L (pA f L q + 1)) (nI (48 + 1)) (nI 57) = 0) : (ordC f L q).2.1 = (nuM f L (pA f L q + 1) (nI 24)).2 ∧ ordF f L q (nI 0) ∧ ((ordC f L q).1 = true → (ordC f L q).2.2.1 = 114 ∧ (nuM f L (q + 1) (nI 99)).1 = (ordC f L q).2.2.2.1 ∧ (nuM f L (pA f L q + 1) (nI 24)).1 = (ordC f L q).2.2.2.2) := by
  rcases rn24 hC with ⟨e, h0⟩ | ⟨e, h2, h3, h4⟩
  · have eo : ordC f L q = (decide (0 ≤ (nuM f L (pA f L q + 1) (nI 24)).1), (nuM f L (pA f L q + 1) (nI 24)).2, 114, (nuM f L (q + 1) (nI 99)).1, (nuM f L (pA f L q + 1) (nI 24)).1) := by rw [ord_r h, rai_y hA hB, e]
    have e1 : (ordC f L q).1 = true := by rw [eo]; exact decide_eq_true h0
    refine ⟨by rw [eo], ordF_ok e1, fun _ => ?_⟩
    rw [eo]
    exact ⟨rfl, rfl, rfl⟩
  · have eo : ordC f L q = (decide ((0 : Int32) ≤ -1), pA f L q + 1 + 1, 114, (nuM f L (q + 1) (nI 99)).1, -1) := by rw [ord_r h, rai_y hA hB, e]
    have e1 : (ordC f L q).1 = false := by rw [eo]; rfl
    have e2 : (ordC f L q).2.1 = pA f L q + 1 + 1 := by rw [eo]
    exact ⟨e2.trans h2.symm, ordF_dig (by rw [e2]; exact h3) (by rw [e2]; exact h4), fun z => by rw [e1] at z; cases z⟩
theorem of_E (h : sgC f L q = nI 115) (hE : winC (sgC f L (q + 1)) (nI 48) (nI 53) = 0) : (ordC f L q).1 = false ∧ (ordC f L q).2.1 = q + 1 := by
  rw [ord_s h, rn_bad5 hE]
  exact ⟨rfl, rfl⟩
theorem of_F (h : sgC f L q = nI 115) (hE : ¬ winC (sgC f L (q + 1)) (nI 48) (nI 53) = 0) : (ordC f L q).2.1 = q + 1 + 1 ∧ ordF f L q (nI 0) ∧ ∃ i, i < 6 ∧ sgC f L (q + 1) = nI (48 + i) ∧ ((ordC f L q).1 = true → (ordC f L q).2.2.1 = 115 ∧ (ordC f L q).2.2.2.1 = nI i) := by
  have hq := sg_lt (a := 48) (by omega) (by omega) hE
  obtain ⟨x, x1, x2, x3⟩ := win_ix (by omega) (by omega) hE
  obtain ⟨i, rfl⟩ : ∃ i, x = 48 + i := ⟨x - 48, by omega⟩
  have e : dgC f L (q + 1) = nI i := by
    unfold dgC
    rw [x3, if_pos (⟨nI_le (a := 48) (by omega) (by omega), nI_le (b := 57) (by omega) (by omega)⟩ : (48 : Int32) ≤ nI (48 + i) ∧ nI (48 + i) ≤ 57)]
    exact (pk_sub (b := 48) (by omega)).trans (by congr 1; omega)
  have c1 : ¬ dgC f L (q + 1) < 0 := by rw [e]; exact nI_pos (by omega)
  have c2 : dgC f L (q + 1) ≤ 5 := by rw [e]; exact nI_le (b := 5) (by omega) (by omega)
  have fin : ∀ x, rnC f L (q + 1) 0 5 = (nI x, q + 1 + 1) → x = i → (ordC f L q).2.1 = q + 1 + 1 ∧ ordF f L q (nI 0) ∧ ∃ i, i < 6 ∧ sgC f L (q + 1) = nI (48 + i) ∧ ((ordC f L q).1 = true → (ordC f L q).2.2.1 = 115 ∧ (ordC f L q).2.2.2.1 = nI i) := by
    intro x er hx
    subst hx
    have eo : ordC f L q = (decide (0 ≤ nI x), q + 1 + 1, 115, nI x, 0) := by rw [ord_s h, er]
    have e1 : (ordC f L q).1 = true := by rw [eo]; exact decide_eq_true (nI_pos' (by omega))
    refine ⟨by rw [eo], ordF_ok e1, x, by omega, x3, fun _ => ?_⟩
    rw [eo]
    exact ⟨rfl, rfl⟩
  rcases dig2 f L (q + 1 + 1) with m | ⟨d2, k1, k2, k3, k4⟩
  · exact fin i (by rw [rn_d c1 c2 (by rw [m]; decide), e]) rfl
  · by_cases hz : i = 0
    · exact fin i (by rw [rn_c c1 c2 (by rw [e, hz]; rfl), e]) rfl
    · have er : rnC f L (q + 1) 0 5 = (-1, q + 1 + 1) := rn_e c1 c2 (by rw [e]; exact nI_ne0 (by omega) (by omega)) (by rw [k4]; exact nI_pos' (by omega)) (by
        rw [e, k4, show (10 : Int32) = nI 10 from rfl, pk_mul, nI_add]
        exact nI_ge (b := 10 * i + d2) (a := 5) (by omega) (by omega))
      have eo : ordC f L q = (decide ((0 : Int32) ≤ -1), q + 1 + 1, 115, -1, 0) := by rw [ord_s h, er]
      have e1 : (ordC f L q).1 = false := by rw [eo]; rfl
      have e2 : (ordC f L q).2.1 = q + 1 + 1 := by rw [eo]
      exact ⟨e2, ordF_dig (by rw [e2]; exact k2) (by rw [e2]; exact dig_n59 k3 k1), i, by omega, x3, fun z => by rw [e1] at z; cases z⟩
theorem of_G (h : ¬ sgC f L q = nI 114) (h2 : ¬ sgC f L q = nI 115) : (ordC f L q).1 = false ∧ (ordC f L q).2.1 = q := by
  rw [ord_n h h2]
  exact ⟨rfl, rfl⟩
theorem of_cs (c : sgC f L q = nI 114 ∨ sgC f L q = nI 115 ∨ (¬ sgC f L q = nI 114 ∧ ¬ sgC f L q = nI 115)) : True := trivial
/-- an order that can be read -/
theorem ordT (ok : (ordC f L q).1 = true) : (sgC f L q = nI 114 ∧ ¬ winC (sgC f L (q + 1)) (nI (48 + 0)) (nI 57) = 0 ∧ ¬ winC (sgC f L (pA f L q)) (nI 104) (nI 104) = 0 ∧ ¬ winC (sgC f L (pA f L q + 1)) (nI (48 + 1)) (nI 57) = 0) ∨ (sgC f L q = nI 115 ∧ ¬ winC (sgC f L (q + 1)) (nI 48) (nI 53) = 0) := by
  have no : ∀ {p : Nat}, (ordC f L q).1 = false ∧ (ordC f L q).2.1 = p → False := fun z => by
    have := z.1
    rw [ok] at this
    cases this
  by_cases h : sgC f L q = nI 114
  · left
    have hA : ¬ winC (sgC f L (q + 1)) (nI (48 + 0)) (nI 57) = 0 := fun z => no (of_A h z)
    have hB : ¬ winC (sgC f L (pA f L q)) (nI 104) (nI 104) = 0 := fun z => no (of_B h hA z)
    exact ⟨h, hA, hB, fun z => no (of_C h hA hB z)⟩
  · by_cases h2 : sgC f L q = nI 115
    · exact Or.inr ⟨h2, fun z => no (of_E h2 z)⟩
    · exact absurd (of_G h h2) no
theorem ordC_ge (ok : (ordC f L q).1 = true) : q + 2 ≤ (ordC f L q).2.1 := by
  rcases ordT ok with ⟨h, hA, hB, hC⟩ | ⟨h, hE⟩
  · rw [(of_D h hA hB hC).1]
    have h1 := nuM_q f L (pA f L q + 1) (nI 24)
    have h2 := nuM_q f L (q + 1) (nI 99)
    have h3 : pA f L q = (nuM f L (q + 1) (nI 99)).2 := rfl
    omega
  · rw [(of_F h hE).1]
    omega
theorem sg_nz {a : Nat} (h : sgC f L q = nI a) (ha : 0 < a) (ha2 : a < 2 ^ 31) : q < L := Classical.byContradiction (fun z => by
  rw [sg_out (by omega)] at h
  exact nI_ne0 ha ha2 h.symm)
section
variable {o : Nat} {w : Int32}
theorem go_1 (ho : o < 60) (h : ordF f L q w) (c : ¬ w = 0) : fauC f L (60 - o) q = some (ordC f L q).2.1 ∧ w = nI 1 := ⟨fau_4 ho (fun z => c (h.2.1 z)), h.1.resolve_left c⟩
theorem go_2 (ho : o < 60) (h : ordF f L q w) (c : w = 0) (hL : L ≤ (ordC f L q).2.1) : fauC f L (60 - o) q = none :=
  fau_1 ho (Classical.byContradiction (fun z => absurd (h.2.2 z c).1 (by omega))) hL
theorem go_3 (ho : o < 60) (hp : (ordC f L q).2.1 < L) (h3 : winC (sgC f L (ordC f L q).2.1) (nI 59) (nI 59) = 0) : fauC f L (60 - o) q = some (ordC f L q).2.1 := by
  by_cases ok : (ordC f L q).1 = true
  · exact fau_2 ho ok hp (win_ne h3)
  · exact fau_4 ho ok
theorem go_4 (ho : o < 60) (h : ordF f L q w) (c : w = 0) (hp : (ordC f L q).2.1 < L) (hL : L < 2 ^ 31) (h3 : ¬ winC (sgC f L (ordC f L q).2.1) (nI 59) (nI 59) = 0) : (ordC f L q).1 = true ∧ fauC f L (60 - (o + 1)) ((ordC f L q).2.1 + 1) = fauC f L (60 - o) q := by
  have ok : (ordC f L q).1 = true := Classical.byContradiction (fun z => (h.2.2 z c).2 (win_eq h3))
  exact ⟨ok, fau_3 ho ok (nI_lt hp hL) (win_eq h3)⟩
theorem fau_ok (ho : o < 60) (h : fauC f L (60 - o) q = none) : (ordC f L q).1 = true := Classical.byContradiction (fun z => by
  rw [fau_4 ho z] at h
  cases h)
theorem fau_sep (ho : o < 60) (h : fauC f L (60 - o) q = none) (hp : (ordC f L q).2.1 < L) : ¬ winC (sgC f L (ordC f L q).2.1) (nI 59) (nI 59) = 0 := fun z => by
  rw [go_3 ho hp z] at h
  cases h
theorem fau_nx (ho : o < 60) (h : fauC f L (60 - o) q = none) (hp : (ordC f L q).2.1 < L) (hL : L < 2 ^ 31) : fauC f L (60 - (o + 1)) ((ordC f L q).2.1 + 1) = none :=
  (fau_3 ho (fau_ok ho h) (nI_lt hp hL) (win_eq (fau_sep ho h hp))).trans h
end
end
/-- the model does an order -/
def obSM (σ : Nat → Int32) (i : Nat) : Int32 × (Nat → Int32) := if (σ 105).toNatClampNeg < 20 then (if whM σ i < 0 then nI 0 else nI 1, comC ((σ 105).toNatClampNeg + 1) 0 (sndC σ i (σ 105).toNatClampNeg)) else (nI 0, σ)
def obRM (σ : Nat → Int32) (x y : Int32) : Int32 × (Nat → Int32) := if raeM σ x y < 0 then (nI 0, σ) else (nI 1, pasM x σ y.toNatClampNeg)
def obM (σ : Nat → Int32) (o : Bool × Nat × Int32 × Int32 × Int32) : Int32 × (Nat → Int32) := if o.2.2.1 = 115 then obSM σ o.2.2.2.1.toNatClampNeg else obRM σ o.2.2.2.1 o.2.2.2.2
theorem obM_s {σ : Nat → Int32} {o : Bool × Nat × Int32 × Int32 × Int32} {i : Nat} (h : o.2.2.1 = 115) (h2 : o.2.2.2.1 = nI i) (hi : i < 6) : obM σ o = obSM σ i := by
  unfold obM
  rw [if_pos h, h2, nI_clamp (by omega)]
theorem obM_r {σ : Nat → Int32} {o : Bool × Nat × Int32 × Int32 × Int32} (h : o.2.2.1 = 114) : obM σ o = obRM σ o.2.2.2.1 o.2.2.2.2 := by
  unfold obM
  rw [if_neg (by rw [h]; decide)]
theorem obS_a {σ : Nat → Int32} {i n : Nat} (hn : σ 105 = nI n) (h : n < 20) : obSM σ i = (if whM σ i < 0 then nI 0 else nI 1, comC (n + 1) 0 (sndC σ i n)) := by
  unfold obSM
  rw [hn, nI_clamp (by omega), if_pos h]
theorem obS_b {σ : Nat → Int32} {i n : Nat} (hn : σ 105 = nI n) (h2 : n ≤ 20) (h : ¬ n < 20) : obSM σ i = (nI 0, σ) := by
  unfold obSM
  rw [hn, nI_clamp (by omega), if_neg h]
theorem obR_a {σ : Nat → Int32} {x y : Int32} (h : raeM σ x y < 0) : obRM σ x y = (nI 0, σ) := if_pos h
theorem obR_b {σ : Nat → Int32} {x : Int32} {z : Nat} (h : ¬ raeM σ x (nI z) < 0) (hz : z < 2 ^ 31) : obRM σ x (nI z) = (nI 1, pasM x σ z) := (if_neg h).trans (by rw [nI_clamp hz])
def runM (f : Nat → Int32) (L : Nat) : Nat → Nat → Int32 → (Nat → Int32) → Int32 × (Nat → Int32)
  | 0, _, d, σ => (d, σ)
  | z + 1, q, d, σ => if (ordC f L q).1 = true then runM f L z ((ordC f L q).2.1 + 1) (d + (obM σ (ordC f L q)).1) (obM σ (ordC f L q)).2 else (d, σ)
theorem rM_s {f : Nat → Int32} {L o q : Nat} {d : Int32} {σ : Nat → Int32} (ho : o < 60) (ok : (ordC f L q).1 = true) : runM f L (60 - (o + 1)) ((ordC f L q).2.1 + 1) (d + (obM σ (ordC f L q)).1) (obM σ (ordC f L q)).2 = runM f L (60 - o) q d σ := by
  rw [show 60 - o = (60 - (o + 1)) + 1 by omega]
  exact (if_pos ok).symm
theorem ord_end {f : Nat → Int32} {L q : Nat} (h : L ≤ q) : ¬ (ordC f L q).1 = true := by
  rw [ord_n (by rw [sg_out h]; decide) (by rw [sg_out h]; decide)]
  exact Bool.false_ne_true
theorem rM_e {f : Nat → Int32} {L o q : Nat} {d : Int32} {σ : Nat → Int32} (ho : o < 60) (ok : (ordC f L q).1 = true) (h : L ≤ (ordC f L q).2.1) : runM f L (60 - o) q d σ = (d + (obM σ (ordC f L q)).1, (obM σ (ordC f L q)).2) := by
  rw [← rM_s ho ok]
  cases 60 - (o + 1) with
  | zero => rfl
  | succ z => exact if_neg (ord_end (by omega))
