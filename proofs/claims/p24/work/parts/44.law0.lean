/-! what the law's walk needs -/
theorem RepH.dom {g : GG} {A A' : Nat → Prop} {M : MM} {h : Nat} {ρ : Nat → Nat} {πs : Nat → Nat → Nat} {vs : Nat → VV} {sz : Int32} (hR : RepH g A M h ρ πs vs sz) (hA : ∀ q, h ≤ q → q < h + 212 → A' q) : RepH g A' M h ρ πs vs sz := by
  obtain ⟨h1, h2, h3, h4, h5, h6⟩ := hR
  refine ⟨hA _ (by omega) (by omega), hA _ (by omega) (by omega), h3, h4, h5, fun i hi => (h6 i hi).dom (fun q z1 z2 => ?_)⟩
  have := h3.1 i hi
  exact hA q (by omega) (by omega)
theorem RepT.dom {g : GG} {A A' : Nat → Prop} {M : MM} {a : Nat} {f : Nat → Int32} {len : Int32} {rs : Nat → Int32} (h : RepT g A M a f len rs) (hA : ∀ q, a ≤ q → q < a + 3 → A' q) : RepT g A' M a f len rs := ⟨hA _ (by omega) (by omega), hA _ (by omega) (by omega), hA _ (by omega) (by omega), h.2.2.2⟩
theorem RepX.dom {g : GG} {A A' : Nat → Prop} {M : MM} {X : Nat} {π : Nat → Nat} {now : VV} {hs : Nat → VV} {k : Nat} {sl : Nat → VV} {sv f : Nat → Int32} {L : Nat} (h : RepX g A M X π now hs k sl sv f L) (hA : ∀ q, X ≤ q → q < X + 358 → A' q) : RepX g A' M X π now hs k sl sv f L := by
  obtain ⟨h1, h2, h3, h4, h5, h6, hN, ⟨πt, t, hT⟩, ⟨ρ, πs, hH⟩, hS, ⟨rs, hTx⟩⟩ := h
  refine ⟨hA _ (by omega) (by omega), hA _ (by omega) (by omega), hA _ (by omega) (by omega), h4, h5, h6, hN.dom (fun q _ _ => hA q (by omega) (by omega)), ⟨πt, t, hT.dom (fun q _ _ => hA q (by omega) (by omega))⟩, ⟨ρ, πs, hH.dom (fun q _ _ => hA q (by omega) (by omega))⟩, fun i hi => ?_, ⟨rs, hTx.dom (fun q _ _ => hA q (by omega) (by omega))⟩⟩
  obtain ⟨πi, hs⟩ := hS i hi
  exact ⟨πi, hs.dom (fun q _ _ => hA q (by omega) (by omega))⟩
theorem RepX.agr {g : GG} {A : Nat → Prop} {M M1 : MM} {X : Nat} {π : Nat → Nat} {now : VV} {hs : Nat → VV} {k : Nat} {sl : Nat → VV} {sv f : Nat → Int32} {L : Nat} (h : RepX g A M X π now hs k sl sv f L) (ha : ∀ q, X ≤ q → q < X + 358 → M1 q = M q) : RepX g A M1 X π now hs k sl sv f L := by
  obtain ⟨h1, h2, h3, h4, h5, h6, hN, ⟨πt, t, hT⟩, ⟨ρ, πs, hH⟩, hS, ⟨rs, hTx⟩⟩ := h
  refine ⟨h1, h2, h3, by rw [ha _ (by omega) (by omega)]; exact h4, by rw [ha _ (by omega) (by omega)]; exact h5, by rw [ha _ (by omega) (by omega)]; exact h6, hN.agr (fun q _ _ => ha q (by omega) (by omega)), ⟨πt, t, hT.agr (fun q _ _ => ha q (by omega) (by omega))⟩, ⟨ρ, πs, hH.agr (fun q _ _ => ha q (by omega) (by omega))⟩, fun i hi => ?_, ⟨rs, hTx.agr (fun q _ _ => ha q (by omega) (by omega))⟩⟩
  obtain ⟨πi, hs⟩ := hS i hi
  exact ⟨πi, hs.agr (fun q _ _ => ha q (by omega) (by omega))⟩
theorem RXS.agr {g : GG} {A : Nat → Prop} {M0 M M1 : MM} {X : Nat} {c : CS} (h : RXS g A M0 M X c) (ha : ∀ q, X ≤ q → q < X + 358 → M1 q = M q) : RXS g A M1 M1 X c := by
  obtain ⟨π, h1, -⟩ := h
  exact ⟨π, h1.agr ha, FrX.rf⟩
theorem RXS.at {g : GG} {A : Nat → Prop} {M0 M : MM} {X : Nat} {c : CS} (h : RXS g A M0 M X c) : RXS g A M M X c := by
  obtain ⟨π, h1, -⟩ := h
  exact ⟨π, h1, FrX.rf⟩
theorem RXS.fr {g : GG} {A : Nat → Prop} {M0 M : MM} {X : Nat} {c : CS} (h : RXS g A M0 M X c) : FrX X M0 M := by
  obtain ⟨π, -, h2⟩ := h
  exact h2
theorem RXS.ob {g : GG} {A : Nat → Prop} {M0 M : MM} {X : Nat} {c : CS} (h : RXS g A M0 M X c) : A X ∧ M X = xE X := by
  obtain ⟨π, h1, -⟩ := h
  exact ⟨h1.1, h1.2.2.2.1⟩
section
variable {B : Nat} {c : CS} {σ : Nat → Int32} {ar : Nat → Nat → Int32} {ns : Nat → Int32} {k L n h : Nat}
end
/-! the first state -/
theorem ini_wt : ∀ i : Fin 6, iniS (17 * i.val + 10) = iniS (17 * i.val + 11) - iniS (17 * i.val + 11) / iniS 102 * iniS 102 := by decide +kernel
theorem ini_b : ∀ i : Fin 6, (1 ≤ (iniS (17 * i.val)).toInt ∧ (iniS (17 * i.val)).toInt ≤ 9) ∧ (1 ≤ (iniS (17 * i.val + 1)).toInt ∧ (iniS (17 * i.val + 1)).toInt ≤ 50) ∧ (-60 ≤ (iniS (17 * i.val + 10)).toInt ∧ (iniS (17 * i.val + 10)).toInt ≤ 60) ∧ (0 ≤ (iniS (17 * i.val + 12)).toInt ∧ (iniS (17 * i.val + 12)).toInt ≤ 33000000) ∧ iniS (17 * i.val + 3) = nI i.val := by decide +kernel
theorem ini_s : iniS 102 = nI 10 ∧ iniS 103 = nI 1 ∧ iniS 104 = nI 0 ∧ iniS 105 = nI 0 ∧ 0 ≤ (iniS 2).toInt ∧ (iniS 2).toInt ≤ 200 ∧ 0 ≤ (iniS 6).toInt ∧ (iniS 6).toInt ≤ 0 := by decide +kernel
theorem ini_v : iniV.1 0 = nI 10 ∧ iniV.1 1 = nI 1 ∧ iniV.1 2 = nI 0 ∧ iniV.1 3 = nI 0 := ⟨rfl, rfl, rfl, rfl⟩
theorem ini_on : OnW iniV := ⟨0, by omega, rfl⟩
abbrev iniC : CS := (iniV, fun _ => iniV, 0, fun _ => iniV, fun _ => 0, fun _ => 0, 0)
