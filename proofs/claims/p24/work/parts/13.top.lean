/-! THE OBJECT OF THE CLASS: 358 cells in a row from X on -/
abbrev xE (X : Nat) : va_E := .inr (7, [.ref (X + 1), .ref (X + 36), .ref (X + 71), .ref (X + 283), .ref (X + 284), .ref (X + 285), .ref (X + 285 + 2)])
abbrev slE (g : GG) (X : Nat) : va_E := .inl (g.2 5, 2, .inr (.inr (.inr (.inr (fun i => some (X + 288 + 35 * i))))))
abbrev svE (g : GG) (sv : Nat → Int32) : va_E := .inl (g.2 2, 2, .inl sv)
def RepX (g : GG) (A : Nat → Prop) (M : MM) (X : Nat) (π : Nat → Nat) (now : VV) (hs : Nat → VV) (k : Nat) (sl : Nat → VV) (sv f : Nat → Int32) (L : Nat) : Prop :=
  A X ∧ A (X + 283) ∧ A (X + 284) ∧ M X = xE X ∧ M (X + 283) = slE g X ∧ M (X + 284) = svE g sv ∧ RepV g A M (X + 1) π now ∧ (∃ πt t, RepV g A M (X + 36) πt t) ∧ (∃ ρ πs, RepH g A M (X + 71) ρ πs hs (nI k)) ∧ (∀ i, i < 2 → ∃ πi, RepV g A M (X + 288 + 35 * i) πi (sl i)) ∧ ∃ rs, RepT g A M (X + 285) f (nI L) rs
def FrX (X : Nat) (M0 M : MM) : Prop := ∀ q, ¬ (X ≤ q ∧ q < X + 358) → M q = M0 q
def RX (g : GG) (A : Nat → Prop) (M0 M : MM) (X : Nat) (π : Nat → Nat) (now : VV) (hs : Nat → VV) (k : Nat) (sl : Nat → VV) (sv f : Nat → Int32) (L : Nat) : Prop := RepX g A M X π now hs k sl sv f L ∧ FrX X M0 M
theorem FrX.rf {X : Nat} {M : MM} : FrX X M M := fun _ _ => rfl
theorem RepV.agr {g : GG} {A : Nat → Prop} {M M1 : MM} {b : Nat} {π : Nat → Nat} {v : VV} (h : RepV g A M b π v) (ha : ∀ q, b ≤ q → q < b + 35 → M1 q = M q) : RepV g A M1 b π v := by
  obtain ⟨h1, h2, h3, h4, h5, h6, h7, h8⟩ := h
  refine ⟨h1, h2, ?_, ?_, ?_, fun i hi => ?_, fun i hi => ?_, fun j hj => ?_⟩
  · rw [ha _ (by omega) (by omega)]; exact h3
  · rw [ha _ (by omega) (by omega)]; exact h4
  · rw [ha _ (by omega) (by omega)]; exact h5
  · rw [ha _ (by omega) (by omega)]; exact h6 i hi
  · rw [ha _ (by omega) (by omega)]; exact h7 i hi
  · have := h2.1 j hj
    rw [ha _ (by omega) (by omega)]; exact h8 j hj
section
variable {g : GG} {A : Nat → Prop} {M0 M M1 : MM} {X : Nat} {π π1 : Nat → Nat} {now v1 : VV} {hs hs1 : Nat → VV} {k k1 : Nat} {sl : Nat → VV} {sv f : Nat → Int32} {L : Nat}
theorem RX.obj (h : RX g A M0 M X π now hs k sl sv f L) : M X = xE X := h.1.2.2.2.1
theorem RX.AX (h : RX g A M0 M X π now hs k sl sv f L) : A X := h.1.1
theorem RX.nowV (h : RX g A M0 M X π now hs k sl sv f L) : RepV g A M (X + 1) π now := h.1.2.2.2.2.2.2.1
theorem RX.tri (h : RX g A M0 M X π now hs k sl sv f L) : ∃ πt t, RepV g A M (X + 36) πt t := h.1.2.2.2.2.2.2.2.1
theorem RX.his (h : RX g A M0 M X π now hs k sl sv f L) : ∃ ρ πs, RepH g A M (X + 71) ρ πs hs (nI k) := h.1.2.2.2.2.2.2.2.2.1
theorem RX.slo (h : RX g A M0 M X π now hs k sl sv f L) {i : Nat} (hi : i < 2) : ∃ πi, RepV g A M (X + 288 + 35 * i) πi (sl i) := h.1.2.2.2.2.2.2.2.2.2.1 i hi
theorem RX.txt (h : RX g A M0 M X π now hs k sl sv f L) : ∃ rs, RepT g A M (X + 285) f (nI L) rs := h.1.2.2.2.2.2.2.2.2.2.2
theorem RX.gen (h : RX g A M0 M X π now hs k sl sv f L) {lo hi : Nat} (hl : X + 1 ≤ lo) (hh : hi ≤ X + 358) (hF : ∀ q, ¬ (lo ≤ q ∧ q < hi) → M1 q = M q) (hx : hi ≤ X + 283 ∨ X + 285 ≤ lo)
    (hN : RepV g A M1 (X + 1) π1 v1) (hT : (∃ πt t, RepV g A M1 (X + 36) πt t)) (hH : (∃ ρ πs, RepH g A M1 (X + 71) ρ πs hs1 (nI k1))) {sl1 : Nat → VV} (hS : ∀ i, i < 2 → ∃ πi, RepV g A M1 (X + 288 + 35 * i) πi (sl1 i)) {f1 : Nat → Int32} {L1 : Nat} (hTx : ∃ rs, RepT g A M1 (X + 285) f1 (nI L1) rs) : RX g A M0 M1 X π1 v1 hs1 k1 sl1 sv f1 L1 := by
  obtain ⟨⟨h1, h2, h3, h4, h5, h6, -⟩, hf⟩ := h
  exact ⟨⟨h1, h2, h3, by rw [hF _ (by omega)]; exact h4, by rw [hF _ (by omega)]; exact h5, by rw [hF _ (by omega)]; exact h6, hN, hT, hH, hS, hTx⟩, fun q hq => (hF q (by omega)).trans (hf q hq)⟩
theorem RX.setN (h : RX g A M0 M X π now hs k sl sv f L) (hV : RepV g A M1 (X + 1) π1 v1) (hF : FrV (X + 1) M M1) : RX g A M0 M1 X π1 v1 hs k sl sv f L := by
  obtain ⟨πt, t, hT⟩ := h.tri
  obtain ⟨ρ, πs, hH⟩ := h.his
  obtain ⟨rs, hTx⟩ := h.txt
  exact h.gen (lo := X + 1) (hi := X + 36) (by omega) (by omega) (fun q hq => hF q (by omega)) (by omega) hV ⟨πt, t, hT.agr (fun q h1 h2 => hF q (by omega))⟩ ⟨ρ, πs, hH.agr (fun q h1 h2 => hF q (by omega))⟩ (fun i hi => by
    obtain ⟨πi, hs⟩ := h.slo hi
    exact ⟨πi, hs.agr (fun q h1 h2 => hF q (by omega))⟩) ⟨rs, hTx.agr (fun q h1 h2 => hF q (by omega))⟩
theorem RX.setT {πt : Nat → Nat} {t : VV} (h : RX g A M0 M X π now hs k sl sv f L) (hV : RepV g A M1 (X + 36) πt t) (hF : FrV (X + 36) M M1) : RX g A M0 M1 X π now hs k sl sv f L := by
  obtain ⟨ρ, πs, hH⟩ := h.his
  obtain ⟨rs, hTx⟩ := h.txt
  exact h.gen (lo := X + 36) (hi := X + 71) (by omega) (by omega) (fun q hq => hF q (by omega)) (by omega) (h.nowV.agr (fun q h1 h2 => hF q (by omega))) ⟨πt, t, hV⟩ ⟨ρ, πs, hH.agr (fun q h1 h2 => hF q (by omega))⟩ (fun i hi => by
    obtain ⟨πi, hs⟩ := h.slo hi
    exact ⟨πi, hs.agr (fun q h1 h2 => hF q (by omega))⟩) ⟨rs, hTx.agr (fun q h1 h2 => hF q (by omega))⟩
theorem RX.setH {ρ1 : Nat → Nat} {πs1 : Nat → Nat → Nat} (h : RX g A M0 M X π now hs k sl sv f L) (hH : RepH g A M1 (X + 71) ρ1 πs1 hs1 (nI k1)) (hF : FrH (X + 71) M M1) : RX g A M0 M1 X π now hs1 k1 sl sv f L := by
  obtain ⟨πt, t, hT⟩ := h.tri
  obtain ⟨rs, hTx⟩ := h.txt
  exact h.gen (lo := X + 71) (hi := X + 283) (by omega) (by omega) (fun q hq => hF q (by omega)) (by omega) (h.nowV.agr (fun q h1 h2 => hF q (by omega))) ⟨πt, t, hT.agr (fun q h1 h2 => hF q (by omega))⟩ ⟨ρ1, πs1, hH⟩ (fun i hi => by
    obtain ⟨πi, hs⟩ := h.slo hi
    exact ⟨πi, hs.agr (fun q h1 h2 => hF q (by omega))⟩) ⟨rs, hTx.agr (fun q h1 h2 => hF q (by omega))⟩
theorem RX.setHN {ρ1 : Nat → Nat} {πs1 : Nat → Nat → Nat} (h : RX g A M0 M X π now hs k sl sv f L) (hH : RepH g A M1 (X + 71) ρ1 πs1 hs1 (nI k1)) (hV : RepV g A M1 (X + 1) π1 v1) (hF : FrHB (X + 71) (X + 1) M M1) : RX g A M0 M1 X π1 v1 hs1 k1 sl sv f L := by
  obtain ⟨πt, t, hT⟩ := h.tri
  obtain ⟨rs, hTx⟩ := h.txt
  exact h.gen (lo := X + 1) (hi := X + 283) (by omega) (by omega) (fun q hq => hF q (by omega) (by omega)) (by omega) hV ⟨πt, t, hT.agr (fun q h1 h2 => hF q (by omega) (by omega))⟩ ⟨ρ1, πs1, hH⟩ (fun i hi => by
    obtain ⟨πi, hs⟩ := h.slo hi
    exact ⟨πi, hs.agr (fun q h1 h2 => hF q (by omega) (by omega))⟩) ⟨rs, hTx.agr (fun q h1 h2 => hF q (by omega) (by omega))⟩
theorem RX.setX {f1 : Nat → Int32} {L1 : Nat} {rs1 : Nat → Int32} (h : RX g A M0 M X π now hs k sl sv f L) (hTx : RepT g A M1 (X + 285) f1 (nI L1) rs1) (hF : FrT (X + 285) M M1) : RX g A M0 M1 X π now hs k sl sv f1 L1 := by
  obtain ⟨πt, t, hT⟩ := h.tri
  obtain ⟨ρ, πs, hH⟩ := h.his
  exact h.gen (lo := X + 285) (hi := X + 288) (by omega) (by omega) (fun q hq => hF q (by omega)) (by omega) (h.nowV.agr (fun q h1 h2 => hF q (by omega))) ⟨πt, t, hT.agr (fun q h1 h2 => hF q (by omega))⟩ ⟨ρ, πs, hH.agr (fun q h1 h2 => hF q (by omega))⟩ (fun i hi => by
    obtain ⟨πi, hs⟩ := h.slo hi
    exact ⟨πi, hs.agr (fun q h1 h2 => hF q (by omega))⟩) ⟨rs1, hTx⟩
theorem RX.setS {i : Nat} {πi : Nat → Nat} (h : RX g A M0 M X π now hs k sl sv f L) (hi : i < 2) (hV : RepV g A M1 (X + 288 + 35 * i) πi v1) (hF : FrV (X + 288 + 35 * i) M M1) : RX g A M0 M1 X π now hs k (va_up sl i v1) sv f L := by
  obtain ⟨πt, t, hT⟩ := h.tri
  obtain ⟨ρ, πs, hH⟩ := h.his
  obtain ⟨rs, hTx⟩ := h.txt
  refine h.gen (lo := X + 288) (hi := X + 358) (by omega) (by omega) (fun q hq => hF q (by omega)) (by omega) (h.nowV.agr (fun q h1 h2 => hF q (by omega))) ⟨πt, t, hT.agr (fun q h1 h2 => hF q (by omega))⟩ ⟨ρ, πs, hH.agr (fun q h1 h2 => hF q (by omega))⟩ (fun j hj => ?_) ⟨rs, hTx.agr (fun q h1 h2 => hF q (by omega))⟩
  by_cases hji : j = i
  · subst hji
    rw [va_up_self]
    exact ⟨πi, hV⟩
  · rw [va_up_ne _ _ hji]
    obtain ⟨πj, hs⟩ := h.slo hj
    exact ⟨πj, hs.agr (fun q h1 h2 => hF q (by omega))⟩
theorem RX.setSv {sv1 : Nat → Int32} (h : RX g A M0 M X π now hs k sl sv f L) : RX g A M0 (va_up M (X + 284) (svE g sv1)) X π now hs k sl sv1 f L := by
  have hF : ∀ q, q ≠ X + 284 → va_up M (X + 284) (svE g sv1) q = M q := fun q hq => va_up_ne _ _ hq
  obtain ⟨⟨h1, h2, h3, h4, h5, h6, hN, ⟨πt, t, hT⟩, ⟨ρ, πs, hH⟩, hSl, ⟨rs, hTx⟩⟩, hf⟩ := h
  refine ⟨⟨h1, h2, h3, by rw [hF _ (by omega)]; exact h4, by rw [hF _ (by omega)]; exact h5, va_up_self _ _ _, hN.agr (fun q h1 h2 => hF q (by omega)), ⟨πt, t, hT.agr (fun q h1 h2 => hF q (by omega))⟩, ⟨ρ, πs, hH.agr (fun q h1 h2 => hF q (by omega))⟩, fun i hi => ?_, ⟨rs, hTx.agr (fun q h1 h2 => hF q (by omega))⟩⟩, fun q hq => (hF q (by omega)).trans (hf q hq)⟩
  obtain ⟨πi, hs⟩ := hSl i hi
  exact ⟨πi, hs.agr (fun q h1 h2 => hF q (by omega))⟩
end
/-- the class's state -/
abbrev CS : Type := VV × (Nat → VV) × Nat × (Nat → VV) × (Nat → Int32) × (Nat → Int32) × Nat
def RXS (g : GG) (A : Nat → Prop) (M0 M : MM) (X : Nat) (c : CS) : Prop := ∃ π, RX g A M0 M X π c.1 c.2.1 c.2.2.1 c.2.2.2.1 c.2.2.2.2.1 c.2.2.2.2.2.1 c.2.2.2.2.2.2
def CI (c : CS) : Prop := OnW c.1 ∧ c.2.2.1 ≤ 6 ∧ (∀ i, i < 6 → OnW (c.2.1 i)) ∧ (∀ i, i < 2 → OnW (c.2.2.2.1 i)) ∧ c.2.2.2.2.2.2 ≤ 60 ∧ ∀ i, i < 60 → narrow .char (.int (c.2.2.2.2.2.1 i)) = .int (c.2.2.2.2.2.1 i) ∧ fits .char (.int (c.2.2.2.2.2.1 i)) = true
def onN (v : VV) : Nat := (v.1 3).toNatClampNeg
theorem onN_eq {v : VV} {n : Nat} (h : v.1 3 = nI n) (hn : n ≤ 20) : onN v = n := by
  unfold onN
  rw [h]
  exact nI_clamp (by omega)
theorem OnW.eq {v : VV} (h : OnW v) : v.1 3 = nI (onN v) ∧ onN v ≤ 20 := by
  obtain ⟨n, hn, e⟩ := h
  rw [onN_eq e hn]
  exact ⟨e, hn⟩
/-- the state before a change is recorded, and there is a new one -/
def recX (c : CS) (v : VV) : CS := (v, recV c.2.2.1 c.2.1 c.1 (onN c.1), recK c.2.2.1, c.2.2.2)

