/-! hours: the rain, then the runners -/
theorem catL_row (a : Int32) (v : VV) : ∀ i, (catL a v i).2.1 = fun j => if j < i then catR (v.2.1 j) a else v.2.1 j := by
  intro i
  induction i with
  | zero => funext j; exact (if_neg (Nat.not_lt_zero j)).symm
  | succ i ih =>
    show (catC (catL a v i) i a).2.1 = _
    rw [cat_eq, ih]
    funext j
    show va_up (fun j => if j < i then catR (v.2.1 j) a else v.2.1 j) i (catR (if i < i then catR (v.2.1 i) a else v.2.1 i) a) j = _
    by_cases e : j = i
    · rw [e, va_up_self, if_neg (Nat.lt_irrefl i), if_pos (Nat.lt_succ_self i)]
    · rw [va_up_ne _ _ e]
      by_cases z : j < i
      · rw [if_pos z, if_pos (by omega)]
      · rw [if_neg z, if_neg (by omega)]
theorem ho1_row (a : Int32) (v : VV) {i : Nat} (hi : i < 6) : (ho1C a v).2.1 i = catR (v.2.1 i) a := by
  show (catL a v 6).2.1 i = _
  rw [catL_row]
  exact if_pos hi
theorem ho1_2 (a : Int32) (v : VV) : (ho1C a v).1 2 = v.1 2 + 1 := by
  show va_up (catL a v 6).1 2 ((catL a v 6).1 2 + 1) 2 = _
  rw [va_up_self, catL_1]
theorem ho1_o (a : Int32) (v : VV) {k : Nat} (h : k ≠ 2) : (ho1C a v).1 k = v.1 k := by
  show va_up (catL a v 6).1 2 ((catL a v 6).1 2 + 1) k = _
  rw [va_up_ne _ _ h, catL_1]
theorem ho1_R (a : Int32) (v : VV) : (ho1C a v).2.2 = v.2.2 := catL_2 a v 6
/-- settings stay while runners come -/
theorem mov_W : ∀ (u k : Nat) (v : VV) (q : Nat), q ≠ 3 → (movC u k v).1 q = v.1 q := by
  intro u
  induction u with
  | zero => intro k v q _; rfl
  | succ u ih =>
    intro k v q hq
    unfold movC
    split
    · rw [ih _ _ q hq]
      show va_up (heaC (vR v k 4 (v.2.2 k 4 - 1)) k).1 3 _ q = _
      rw [va_up_ne _ _ hq, heaC_1]
    · rw [ih _ _ q hq]
theorem hou_W (a : Int32) (v : VV) {q : Nat} (h3 : q ≠ 3) (h2 : q ≠ 2) : (houC a v).1 q = v.1 q := by
  unfold houC
  rw [mov_W _ _ _ q h3, ho1_o a v h2]
theorem pas_W (a : Int32) (v : VV) {q : Nat} (h3 : q ≠ 3) (h2 : q ≠ 2) : ∀ z, (pasC a v z).1 q = v.1 q := by
  intro z
  induction z with
  | zero => rfl
  | succ z ih => exact (hou_W a _ h3 h2).trans ih
theorem zPI.mov {B h : Nat} (hh : h ≤ 20000) (hB : B < 2 ^ 30) : ∀ (u k T : Nat) (v : VV), k + u ≤ 20 → T + u < 2 ^ 30 → v.1 3 = nI (k + u) → (∃ w, 4 ≤ w ∧ w ≤ 60 ∧ v.1 0 = nI w) → v.1 2 = nI h → (∀ i, i < 6 → zGA h (v.2.1 i) ∧ zPA T h (v.2.1 i)) → (∀ j, j < k → zRA B h (v.2.2 j)) → (∀ j, k ≤ j → j < k + u → zRA (B + 1) h (v.2.2 j)) → ∃ n, zPI B (T + u) (movC u k v) n h := by
  intro u
  induction u with
  | zero => intro k T v h1 _ h3 hw h2 hG hlo _; exact ⟨k, h1, h3, hw, h2, hG, hlo⟩
  | succ u ih =>
    intro k T v h1 hT h3 hw h2 hG hlo hhi
    obtain ⟨⟨i, hi, ei⟩, b1, b2, b3, ⟨d, d1, d2, d4⟩⟩ := hhi k (by omega) (by omega)
    obtain ⟨d, rfl⟩ : ∃ d', d = d' + 1 := ⟨d - 1, by omega⟩
    have e4 : v.2.2 k 4 - 1 = nI d := by rw [d4]; exact nI_pred d
    unfold movC
    by_cases hz : d = 0
    · rw [if_pos (by rw [e4, hz]; decide)]
      have r0 : ∀ q, q < 4 → (vR v k 4 (v.2.2 k 4 - 1)).2.2 k q = v.2.2 k q := fun q hq => up2_k (by omega)
      have eg : gxn 6 ((vR v k 4 (v.2.2 k 4 - 1)).2.2 k 0) = some i := by rw [r0 0 (by omega), ei]; exact gxn_in hi (by decide)
      obtain ⟨w, hw1, hw2⟩ := hw
      have hH := hea_eq eg
      rw [r0 1 (by omega), r0 2 (by omega), r0 3 (by omega)] at hH
      rw [show T + (u + 1) = T + 1 + u by omega]
      refine ih k (T + 1) _ (by omega) (by omega) (rmvC_3 _ _ _) ⟨w, hw1, hw2.1, ?_⟩ ?_ (fun i' hi' => ?_) (fun j hj => ?_) (fun j hj1 hj2 => ?_)
      · show va_up (heaC (vR v k 4 (v.2.2 k 4 - 1)) k).1 3 (nI (k + u + 1 - 1)) 0 = _
        rw [va_up_ne _ _ (by omega), heaC_1]; exact hw2.2
      · show va_up (heaC (vR v k 4 (v.2.2 k 4 - 1)) k).1 3 (nI (k + u + 1 - 1)) 2 = _
        rw [va_up_ne _ _ (by omega), heaC_1]; exact h2
      · show zGA h ((heaC (vR v k 4 (v.2.2 k 4 - 1)) k).2.1 i') ∧ zPA (T + 1) h ((heaC (vR v k 4 (v.2.2 k 4 - 1)) k).2.1 i')
        rw [hH]
        show zGA h (va_up v.2.1 i _ i') ∧ zPA (T + 1) h (va_up v.2.1 i _ i')
        by_cases e : i' = i
        · rw [e, va_up_self]
          exact ⟨(hG i hi).1.cg (fun q hq => heaR_o hq), hea_PA (by omega) (hG i hi).2 b1 b2 b3⟩
        · rw [va_up_ne _ _ e]
          exact ⟨(hG i' hi').1, (hG i' hi').2.mono (by omega) (Nat.le_refl h)⟩
      · show zRA B h (rotN k (k + u + 1) (heaC (vR v k 4 (v.2.2 k 4 - 1)) k).2.2 j)
        rw [rot_lo _ (by omega), if_pos hj, heaC_2]
        show zRA B h (up2 v.2.2 k 4 (v.2.2 k 4 - 1) j)
        rw [up2_i (by omega)]
        exact hlo j hj
      · show zRA (B + 1) h (rotN k (k + u + 1) (heaC (vR v k 4 (v.2.2 k 4 - 1)) k).2.2 j)
        rw [rot_lo _ (by omega), if_neg (by omega), heaC_2]
        show zRA (B + 1) h (up2 v.2.2 k 4 (v.2.2 k 4 - 1) (j + 1))
        rw [up2_i (by omega)]
        exact hhi (j + 1) (by omega) (by omega)
    · rw [if_neg (by rw [e4]; exact nI_nle (by omega) (by omega))]
      have ek : k + (u + 1) = k + 1 + u := by omega
      rw [ek] at h3
      rw [show T + (u + 1) = T + 1 + u by omega]
      refine ih (k + 1) (T + 1) _ (by omega) (by omega) h3 hw h2 (fun i' hi' => ⟨(hG i' hi').1, (hG i' hi').2.mono (by omega) (Nat.le_refl h)⟩) (fun j hj => ?_) (fun j hj1 hj2 => ?_)
      · show zRA B h (up2 v.2.2 k 4 (v.2.2 k 4 - 1) j)
        by_cases e : j = k
        · subst e
          exact ⟨⟨i, hi, (up2_k (by omega)).trans ei⟩, by rw [up2_k (by omega)]; exact b1, by rw [up2_k (by omega)]; exact b2, by rw [up2_k (by omega)]; exact b3, d, by omega, by omega, up2_s.trans e4⟩
        · rw [up2_i e]; exact hlo j (by omega)
      · show zRA (B + 1) h (up2 v.2.2 k 4 (v.2.2 k 4 - 1) j)
        rw [up2_i (by omega)]
        exact hhi j (by omega) (by omega)
theorem zPI.hour {B T n h : Nat} {v : VV} (P : zPI (B + 1) T v n h) (hB : B < 2 ^ 30) (hh : h + 1 ≤ 20000) (hT : T + 20 < 2 ^ 30) {a : Int32} (a1 : 0 ≤ a.toInt) (a2 : a.toInt ≤ 99) : ∃ n', zPI B (T + 20) (houC a v) n' (h + 1) := by
  obtain ⟨h1, h2, h3, h4, h5, h6⟩ := P
  unfold houC
  rw [h2, nI_clamp (by omega)]
  obtain ⟨n', P'⟩ := zPI.mov (B := B) (h := h + 1) hh hB n 0 T (ho1C a v) (by omega) (by omega) (by rw [ho1C_3, h2, Nat.zero_add]) (by rw [ho1_o a v (by omega)]; exact h3) (by rw [ho1_2, h4]; exact nI_1 h) (fun i hi => by
    rw [ho1_row a v hi]
    obtain ⟨F, -, -, -, -, -, -, g⟩ := cat_int (h5 i hi).1 (by omega) a1 a2
    exact ⟨g, ((h5 i hi).2.mono (Nat.le_refl T) (Nat.le_succ h)).cg (fun k hk _ => catR_o _ _ (Or.inr hk))⟩) (fun j hj => absurd hj (Nat.not_lt_zero j)) (fun j _ hj => by
    rw [ho1_R]
    exact (h6 j (by omega)).mono (Nat.le_refl _) (Nat.le_succ h))
  exact ⟨n', P'.mono (Nat.le_refl B) (by omega)⟩
theorem zPI.pas {B T n h : Nat} {v : VV} {a : Int32} (a1 : 0 ≤ a.toInt) (a2 : a.toInt ≤ 99) : ∀ q, zPI (B + q) T v n h → B + q < 2 ^ 30 → h + q ≤ 20000 → T + 20 * q < 2 ^ 30 → ∃ n', zPI B (T + 20 * q) (pasC a v q) n' (h + q) := by
  intro q
  induction q generalizing B with
  | zero => intro P _ _ _; exact ⟨n, P⟩
  | succ q ih =>
    intro P hB hh hT
    obtain ⟨n1, P1⟩ := ih (B := B + 1) (by rw [show B + 1 + q = B + (q + 1) by omega]; exact P) (by omega) (by omega) (by omega)
    obtain ⟨n2, P2⟩ := P1.hour (by omega) (by omega) (by omega) a1 a2
    exact ⟨n2, P2.mono (Nat.le_refl B) (by omega)⟩
theorem zPI.pas' {B T n h : Nat} {v : VV} {a : Int32} (P : zPI B T v n h) (a1 : 0 ≤ a.toInt) (a2 : a.toInt ≤ 99) (q : Nat) (hB : B + q < 2 ^ 30) (hh : h + q ≤ 20000) (hT : T + 20 * q < 2 ^ 30) : ∃ n', zPI B (T + 20 * q) (pasC a v q) n' (h + q) :=
  zPI.pas a1 a2 q (P.mono (by omega) (Nat.le_refl T)) hB hh hT
/-- tips are never less than none -/
theorem tis_int {B T n h : Nat} {v : VV} (P : zPI B T v n h) (hh : h + 1 ≤ 4000) {a : Int32} (a1 : 0 ≤ a.toInt) (a2 : a.toInt ≤ 99) {t : Int32} {K : Int} (t1 : 0 ≤ t.toInt) (t2 : t.toInt ≤ K) (hK : K ≤ 1100000000) : ∀ i, i ≤ 6 → 0 ≤ (tisL a v t i).toInt ∧ (tisL a v t i).toInt ≤ K + 7200000 * (i : Int) := by
  intro i
  induction i with
  | zero => intro _; exact ⟨t1, by show t.toInt ≤ _; omega⟩
  | succ i ih =>
    intro hi
    obtain ⟨g1, g2⟩ := ih (by omega)
    have G := (P.2.2.2.2.1 i (by omega)).1
    obtain ⟨F, -, f1, f2, f3, -, -, -⟩ := cat_int G (by omega) a1 a2
    have er : (catL a v i).2.1 i = v.2.1 i := by rw [catL_row]; exact if_neg (Nat.lt_irrefl i)
    have et : tipC (catL a v i) i a = tipR (v.2.1 i) a := by rw [tip_eq, er]
    obtain ⟨-, ⟨c1, c2⟩, -, -, d1, s1, s2, p1, p2⟩ := G
    have b1 : 0 ≤ ((v.2.1 i 4).toInt + F) / (v.2.1 i 1).toInt := Int.ediv_nonneg (by omega) (by omega)
    have b2 : ((v.2.1 i 4).toInt + F) / (v.2.1 i 1).toInt ≤ (v.2.1 i 4).toInt + F := Int.ediv_le_self _ (by omega)
    show 0 ≤ (tisL a v t i + tipC (catL a v i) i a).toInt ∧ (tisL a v t i + tipC (catL a v i) i a).toInt ≤ _
    rw [et]
    have e1 := ti_add (x := tisL a v t i) (y := tipR (v.2.1 i) a) (by rw [f3]; omega) (by rw [f3]; omega)
    rw [e1, f3]
    omega
theorem pat_int {B T n h : Nat} {v : VV} (P : zPI B T v n h) {a : Int32} (a1 : 0 ≤ a.toInt) (a2 : a.toInt ≤ 99) : ∀ q, q ≤ 24 → B + q < 2 ^ 30 → h + q ≤ 4000 → T + 20 * q < 2 ^ 30 → 0 ≤ (pasT a v q).toInt ∧ (pasT a v q).toInt ≤ 43200000 * (q : Int) := by
  intro q
  induction q with
  | zero => intro _ _ _ _; exact ⟨Int.le_refl _, Int.le_refl _⟩
  | succ q ih =>
    intro h1 h2 h3 h4
    obtain ⟨g1, g2⟩ := ih (by omega) (by omega) (by omega) (by omega)
    obtain ⟨n', P'⟩ := P.pas' a1 a2 q (by omega) (by omega) (by omega)
    have z := tis_int P' (by omega) a1 a2 g1 g2 (by omega) 6 (by omega)
    show 0 ≤ (tisL a (pasC a v q) (pasT a v q) 6).toInt ∧ (tisL a (pasC a v q) (pasT a v q) 6).toInt ≤ _
    omega
/-! a gauge from which nobody is on the way -/
def NoG (i : Nat) (v : VV) (n : Nat) : Prop := ∀ j, j < n → v.2.2 j 0 ≠ nI i
def itR (r : Nat → Int32) (a : Int32) : Nat → Nat → Int32
  | 0 => r
  | q + 1 => catR (itR r a q) a
theorem NoG.mov {i : Nat} : ∀ (u k : Nat) (v : VV), v.1 3 = nI (k + u) → NoG i v (k + u) → (∀ j, j < k + u → ∃ q, q < 6 ∧ v.2.2 j 0 = nI q) → (movC u k v).2.1 i = v.2.1 i ∧ ∃ n, n ≤ k + u ∧ (movC u k v).1 3 = nI n ∧ NoG i (movC u k v) n := by
  intro u
  induction u with
  | zero => intro k v h hN _; exact ⟨rfl, k, by omega, h, hN⟩
  | succ u ih =>
    intro k v h hN hv
    have e0 : ∀ j, (vR v k 4 (v.2.2 k 4 - 1)).2.2 j 0 = v.2.2 j 0 := fun j => by
      show up2 v.2.2 k 4 (v.2.2 k 4 - 1) j 0 = _
      by_cases e : j = k
      · rw [e, up2_k (by omega)]
      · rw [up2_i e]
    obtain ⟨g, hg, eg0⟩ := hv k (by omega)
    have hne : i ≠ g := fun z => hN k (by omega) (by rw [z]; exact eg0)
    unfold movC
    by_cases hz : v.2.2 k 4 - 1 ≤ 0
    · rw [if_pos hz]
      have eg : gxn 6 ((vR v k 4 (v.2.2 k 4 - 1)).2.2 k 0) = some g := by rw [e0, eg0]; exact gxn_in hg (by decide)
      have er : ∀ j, j < k + u → (rmvC (heaC (vR v k 4 (v.2.2 k 4 - 1)) k) k (k + u + 1)).2.2 j 0 = v.2.2 (if j < k then j else j + 1) 0 := fun j hj => by
        show rotN k (k + u + 1) (heaC (vR v k 4 (v.2.2 k 4 - 1)) k).2.2 j 0 = _
        rw [rot_lo _ (by omega), heaC_2]
        exact e0 _
      obtain ⟨a1, n, a2, a3, a4⟩ := ih k (rmvC (heaC (vR v k 4 (v.2.2 k 4 - 1)) k) k (k + u + 1)) (rmvC_3 _ _ _) (fun j hj => by rw [er j hj]; exact hN _ (by split <;> omega)) (fun j hj => by rw [er j hj]; exact hv _ (by split <;> omega))
      refine ⟨a1.trans ?_, n, by omega, a3, a4⟩
      show (heaC (vR v k 4 (v.2.2 k 4 - 1)) k).2.1 i = _
      rw [hea_eq eg]
      exact va_up_ne _ _ hne
    · rw [if_neg hz]
      have ek : k + (u + 1) = k + 1 + u := by omega
      rw [ek] at h hN hv
      obtain ⟨a1, n, a2, a3, a4⟩ := ih (k + 1) (vR v k 4 (v.2.2 k 4 - 1)) h (fun j hj => by rw [e0]; exact hN j hj) (fun j hj => by rw [e0]; exact hv j hj)
      exact ⟨a1, n, by omega, a3, a4⟩
theorem NoG.pas {i : Nat} (hi : i < 6) {B T n h : Nat} {v : VV} (P : zPI B T v n h) (N : NoG i v n) {a : Int32} (a1 : 0 ≤ a.toInt) (a2 : a.toInt ≤ 99) : ∀ q, B + q < 2 ^ 30 → h + q ≤ 20000 → T + 20 * q < 2 ^ 30 → (pasC a v q).2.1 i = itR (v.2.1 i) a q ∧ ∃ n', n' ≤ 20 ∧ (pasC a v q).1 3 = nI n' ∧ NoG i (pasC a v q) n' := by
  intro q
  induction q with
  | zero => intro _ _ _; exact ⟨rfl, n, P.1, P.2.1, N⟩
  | succ q ih =>
    intro h1 h2 h3
    obtain ⟨e1, m, m1, m2, m3⟩ := ih (by omega) (by omega) (by omega)
    obtain ⟨n1, P1⟩ := P.pas' a1 a2 q (by omega) (by omega) (by omega)
    have em : n1 = m := by
      have z := P1.2.1.symm.trans m2
      have z2 := congrArg Int32.toNatClampNeg z
      rw [nI_clamp (by have := P1.1; omega), nI_clamp (by omega)] at z2
      exact z2
    subst em
    show (houC a (pasC a v q)).2.1 i = _ ∧ _
    have ez : (houC a (pasC a v q)) = movC n1 0 (ho1C a (pasC a v q)) := by
      unfold houC
      rw [m2, nI_clamp (by omega)]
    obtain ⟨b1, n2, b2, b3, b4⟩ := NoG.mov (i := i) n1 0 (ho1C a (pasC a v q)) (by rw [ho1C_3, m2, Nat.zero_add]) (fun j hj => by rw [ho1_R]; exact m3 j (by omega)) (fun j hj => by rw [ho1_R]; exact (P1.2.2.2.2.2 j (by omega)).1)
    rw [← ez] at b1 b3 b4
    refine ⟨b1.trans ?_, n2, by omega, b3, b4⟩
    rw [ho1_row a _ hi, e1]
    rfl
