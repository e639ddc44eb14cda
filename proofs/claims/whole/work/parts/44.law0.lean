/-! what the law's walk needs -/
theorem RepH.dom {g : GG} {A A' : Nat → Prop} {M : MM} {h : Nat} {ρ : Nat → Nat} {πs : Nat → Nat → Nat} {vs : Nat → VV} {sz : Int32} (hR : RepH g A M h ρ πs vs sz) (hA : ∀ q, h ≤ q → q < h + 212 → A' q) : RepH g A' M h ρ πs vs sz := by
  obtain ⟨h1, h2, h3, h4, h5, h6⟩ := hR
  refine ⟨hA _ (by omega) (by omega), hA _ (by omega) (by omega), h3, h4, h5, fun i hi => (h6 i hi).dom (fun q z1 z2 => ?_)⟩
  have := h3.1 i hi
  exact hA q (by omega) (by omega)
theorem RepT.dom {g : GG} {A A' : Nat → Prop} {M : MM} {a : Nat} {f : Nat → Int32} {len : Int32} {rs : Nat → Int32} (h : RepT g A M a f len rs) (hA : ∀ q, a ≤ q → q < a + 3 → A' q) : RepT g A' M a f len rs := ⟨hA _ (by omega) (by omega), hA _ (by omega) (by omega), hA _ (by omega) (by omega), h.2.2.2⟩
theorem RepX.dom {g : GG} {A A' : Nat → Prop} {M : MM} {X : Nat} {π : Nat → Nat} {now : VV} {hs : Nat → VV} {k : Nat} {sl : Nat → VV} {sv f : Nat → Int32} {L : Nat} (h : RepX g A M X π now hs k sl sv f L) (hA : ∀ q, X ≤ q → q < X + 358 → A' q) : RepX g A' M X π now hs k sl sv f L := by
  obtain ⟨h1, h2, h3, h4, h5, h6, hN, ⟨πt, t, hT⟩, ⟨ρ, πs, hH⟩, hS, ⟨rs, hTx⟩⟩ := h
  refine ⟨hA _ (by omega) (by omega), hA _ (by omega) (by omega), hA _ (by omega) (by omega), h4, h5, h6, hN.dom (fun q _ _ => hA q (by omega) (by omega)), ⟨πt, t, hT.dom (fun q _ _ => hA q (by omega) (by omega))⟩, ⟨ρ, πs, hH.dom (fun q _ _ => hA q (by omega) (by omega))⟩, fun i hi => ?_, ⟨rs, hTx.dom (fun q _ _ => hA q (by omega) (by omega))⟩⟩
  obtain ⟨πi, hs⟩ := hS i hi
  exact ⟨πi, hs.dom (fun q _ _ => hA q (by omega) (by omega))⟩
theorem RepX.agr {g : GG} {A : Nat → Prop} {M M1 : MM} {X : Nat} {π : Nat → Nat} {now : VV} {hs : Nat → VV} {k : Nat} {sl : Nat → VV} {sv f : Nat → Int32} {L : Nat} (h : RepX g A M X π now hs k sl sv f L) (ha : ∀ q, X ≤ q → q < X + 358 → M1 q = M q) : RepX g A M1 X π now hs k sl sv f L := by
  obtain ⟨h1, h2, h3, h4, h5, h6, hN, ⟨πt, t, hT⟩, ⟨ρ, πs, hH⟩, hS, ⟨rs, hTx⟩⟩ := h
  refine ⟨h1, h2, h3, by rw [ha _ (by omega) (by omega)]; exact h4, by rw [ha _ (by omega) (by omega)]; exact h5, by rw [ha _ (by omega) (by omega)]; exact h6, hN.agr (fun q _ _ => ha q (by omega) (by omega)), ⟨πt, t, hT.agr (fun q _ _ => ha q (by omega) (by omega))⟩, ⟨ρ, πs, hH.agr (fun q _ _ => ha q (by omega) (by omega))⟩, fun i hi => ?_, ⟨rs, hTx.agr (fun q _ _ => ha q (by omega) (by omega))⟩⟩
  obtain ⟨πi, hs⟩ := hS i hi
  exact ⟨πi, hs.agr (fun q _ _ => ha q (by omega) (by omega))⟩
theorem RXS.agr {g : GG} {A : Nat → Prop} {M0 M M1 : MM} {X : Nat} {c : CS} (h : RXS g A M0 M X c) (ha : ∀ q, X ≤ q → q < X + 358 → M1 q = M q) : RXS g A M1 M1 X c := by
  obtain ⟨π, h1, -⟩ := h
  exact ⟨π, h1.agr ha, FrX.rf⟩
theorem RXS.at {g : GG} {A : Nat → Prop} {M0 M : MM} {X : Nat} {c : CS} (h : RXS g A M0 M X c) : RXS g A M M X c := by
  obtain ⟨π, h1, -⟩ := h
  exact ⟨π, h1, FrX.rf⟩
theorem RXS.fr {g : GG} {A : Nat → Prop} {M0 M : MM} {X : Nat} {c : CS} (h : RXS g A M0 M X c) : FrX X M0 M := by
  obtain ⟨π, -, h2⟩ := h
  exact h2
theorem RXS.ob {g : GG} {A : Nat → Prop} {M0 M : MM} {X : Nat} {c : CS} (h : RXS g A M0 M X c) : A X ∧ M X = xE X := by
  obtain ⟨π, h1, -⟩ := h
  exact ⟨h1.1, h1.2.2.2.1⟩
section
variable {B : Nat} {c : CS} {σ : Nat → Int32} {ar : Nat → Nat → Int32} {ns : Nat → Int32} {k L n h : Nat}
theorem RelS.as1 (R : RelS B c σ ar k L) (P : Nat → Int32) : RelS B c σ (va_up ar 1 P) k L := by
  have e2 : (va_up ar 1 P) 2 = ar 2 := va_up_ne _ _ (by decide)
  have e3 : (va_up ar 1 P) 3 = ar 3 := va_up_ne _ _ (by decide)
  have e4 : (va_up ar 1 P) 4 = ar 4 := va_up_ne _ _ (by decide)
  have e5 : (va_up ar 1 P) 5 = ar 5 := va_up_ne _ _ (by decide)
  unfold RelS
  rw [e2, e3, e4, e5]
  exact R
theorem sim_asi (R : RelS B c σ ar k L) (hk : ns 0 = nI k) (hL : ns 1 = nI L) {a b : Int32} (e : a = b) : SimO B a c b (asiM (σ, ar, ns)) := ⟨e, k, L, (R.mono (Nat.le_succ B)).as1 _, hk, hL⟩
theorem simS (R : RelS B c σ ar k L) (R0 : Rel B c.1 σ n h) (hk : ns 0 = nI k) (hL : ns 1 = nI L) (t : VV) (x : Int32) : SimO B (oIfSent (cpyC t c.1 (onN c.1)) x) c (mIfSent (σ, ar, ns) x).1 (mIfSent (σ, ar, ns) x).2 := by
  rw [R0.onN, sim_ifSent (ar := ar) (ns := ns) (R0.cpy t) x]
  rcases gxn_cases (n := 6) (by decide) x with ⟨e1, -⟩ | ⟨i, hi, rfl, e1⟩
  · rw [mIfSent_n e1]
    exact sim_same R hk hL rfl
  · rw [mIfSent_y e1]
    exact sim_asi R hk hL rfl
theorem simA (R : RelS B c σ ar k L) (R0 : Rel B c.1 σ n h) (hk : ns 0 = nI k) (hL : ns 1 = nI L) {N : Nat} (t : VV) (x : Int32) (e : oIfAll (cpyC t c.1 n) n x = (mIfAll N (σ, ar, ns) x).1) : SimO B (oIfAll (cpyC t c.1 (onN c.1)) (onN c.1) x) c (mIfAll N (σ, ar, ns) x).1 (mIfAll N (σ, ar, ns) x).2 := by
  rw [R0.onN, e]
  rcases gxn_cases (n := 6) (by decide) x with ⟨e1, -⟩ | ⟨i, hi, rfl, e1⟩
  · rw [mIfAll_n e1]
    exact sim_same R hk hL rfl
  · rw [mIfAll_y e1]
    exact sim_asi R hk hL rfl
/-- the rows that a run of the pad's orders goes through -/
def JB (B : Nat) (τ : Nat → Int32) : Prop := ∃ (v : VV) (n h : Nat), Rel B v τ n h ∧ h ≤ 9999
theorem JB.one (J : JB B σ) : ∃ n, n ≤ 20 ∧ σ 105 = nI n ∧ TI σ n ∧ 0 ≤ (σ (17 * 0 + 6)).toInt ∧ (σ (17 * 0 + 6)).toInt ≤ 33000000 := by
  obtain ⟨v, n, h, R, hh⟩ := J
  exact ⟨n, R.2.2.1, R.2.2.2.2.1, R.2.1, BD.c1 R.2.2.2.2.2.2.1, BD.c2 R.2.2.2.2.2.2.1 (by omega)⟩
theorem JB.two (J : JB B σ) (hB9 : 9 ≤ B) (hB : B < 9000) {f : Nat → Int32} {q : Nat} (ok : (ordC f L q).1 = true) : JB B (obM σ (ordC f L q)).2 := by
  obtain ⟨v, n, h, R, hh⟩ := J
  obtain ⟨-, n', h', R', hh'⟩ := ob_eq R hh hB9 hB ok
  exact ⟨_, n', h', R', hh'⟩
end
/-! the first state -/
theorem ini_gf : ∀ (i : Fin 6) (k : Fin 16), iniG i.val k.val = iniS (17 * i.val + gm k.val) := by decide +kernel
theorem ini_wt : ∀ i : Fin 6, iniS (17 * i.val + 10) = iniS (17 * i.val + 11) - iniS (17 * i.val + 11) / iniS 102 * iniS 102 := by decide +kernel
theorem ini_b : ∀ i : Fin 6, (1 ≤ (iniS (17 * i.val)).toInt ∧ (iniS (17 * i.val)).toInt ≤ 9) ∧ (1 ≤ (iniS (17 * i.val + 1)).toInt ∧ (iniS (17 * i.val + 1)).toInt ≤ 50) ∧ (-60 ≤ (iniS (17 * i.val + 10)).toInt ∧ (iniS (17 * i.val + 10)).toInt ≤ 60) ∧ (0 ≤ (iniS (17 * i.val + 12)).toInt ∧ (iniS (17 * i.val + 12)).toInt ≤ 33000000) ∧ iniS (17 * i.val + 3) = nI i.val := by decide +kernel
theorem ini_s : iniS 102 = nI 10 ∧ iniS 103 = nI 1 ∧ iniS 104 = nI 0 ∧ iniS 105 = nI 0 ∧ 0 ≤ (iniS 2).toInt ∧ (iniS 2).toInt ≤ 200 ∧ 0 ≤ (iniS 6).toInt ∧ (iniS 6).toInt ≤ 0 := by decide +kernel
theorem ini_v : iniV.1 0 = nI 10 ∧ iniV.1 1 = nI 1 ∧ iniV.1 2 = nI 0 ∧ iniV.1 3 = nI 0 := ⟨rfl, rfl, rfl, rfl⟩
theorem ini_Rel : Rel 9 iniV iniS 0 0 := by
  obtain ⟨s1, s2, s3, s4, s5, s6, s7, s8⟩ := ini_s
  obtain ⟨v1, v2, v3, v4⟩ := ini_v
  refine ⟨⟨v1.trans s1.symm, v2.trans s2.symm, v3.trans s3.symm, fun i hi k hk => ini_gf ⟨i, hi⟩ ⟨k, hk⟩, fun i hi => ini_wt ⟨i, hi⟩⟩, ⟨⟨10, by omega, by omega, s1⟩, fun i hi => (ini_b ⟨i, hi⟩).1, fun i hi => (ini_b ⟨i, hi⟩).2.1, fun i hi => (ini_b ⟨i, hi⟩).2.2.1, fun i hi => (ini_b ⟨i, hi⟩).2.2.2.1, fun r hr => absurd hr (Nat.not_lt_zero r), fun r hr => absurd hr (Nat.not_lt_zero r), fun r hr => absurd hr (Nat.not_lt_zero r)⟩, Nat.zero_le _, v4, s4, s3, ⟨s5, s6, s7, by simpa using s8, fun i hi => ⟨i, by omega, (ini_b ⟨i, hi⟩).2.2.2.2⟩⟩, fun r hr => absurd hr (Nat.not_lt_zero r)⟩
theorem ini_on : OnW iniV := ⟨0, by omega, rfl⟩
abbrev iniC : CS := (iniV, fun _ => iniV, 0, fun _ => iniV, fun _ => 0, fun _ => 0, 0)
theorem ini_RelS : RelS 9 iniC iniS (fun _ _ => 0) 0 0 :=
  ⟨⟨ini_on, Nat.zero_le _, fun _ _ => ini_on, fun _ _ => ini_on, Nat.zero_le _, fun _ _ => ⟨rfl, rfl⟩⟩, rfl, rfl, rfl, ⟨0, 0, ini_Rel, Nat.zero_le _⟩, fun j hj => absurd hj (Nat.not_lt_zero j), fun _ _ => rfl, fun _ _ hz => absurd rfl hz⟩
