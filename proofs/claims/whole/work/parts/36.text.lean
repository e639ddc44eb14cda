/-! texts, undo, saving: class and model -/
theorem nu_val {f : Nat → Int32} {L q d hi : Nat} (e : dgC f L q = nI d) (hd : d ≤ 9) (h9 : 9 ≤ hi) (h99 : hi ≤ 99) : ∃ m, (nuM f L q (nI hi)).1 = nI m ∧ d ≤ m ∧ m ≤ hi := by
  rcases dig2 f L (q + 1) with m | ⟨d2, k1, k2, k3, k4⟩
  · rw [nu_o e m]
    exact ⟨d, rfl, Nat.le_refl d, by omega⟩
  · by_cases hz : d = 0
    · rw [nu_z e hz]
      exact ⟨d, rfl, Nat.le_refl d, by omega⟩
    · have es : 10 * nI d + nI d2 = nI (10 * d + d2) := by rw [show (10 : Int32) = nI 10 from rfl, pk_mul, nI_add]
      by_cases hb : 10 * d + d2 ≤ hi
      · rw [nu_2 e k4 hz (by rw [es]; exact nI_nlt hb (by omega))]
        exact ⟨10 * d + d2, rfl, by omega, hb⟩
      · rw [nu_1 e k4 (by rw [es]; exact nI_lt (by omega) (by omega))]
        exact ⟨d, rfl, Nat.le_refl d, by omega⟩
/-- the numbers of an order that can be read -/
theorem ord_rng {f : Nat → Int32} {L q : Nat} (ok : (ordC f L q).1 = true) (hk : (ordC f L q).2.2.1 = 114) : (∃ x, x ≤ 99 ∧ (ordC f L q).2.2.2.1 = nI x) ∧ ∃ y, 1 ≤ y ∧ y ≤ 24 ∧ (ordC f L q).2.2.2.2 = nI y := by
  rcases ordT ok with ⟨h, hA, hB, hC⟩ | ⟨h, hE⟩
  · obtain ⟨-, -, k3⟩ := of_D h hA hB hC
    obtain ⟨-, kx, ky⟩ := k3 ok
    obtain ⟨d, d1, d2, d3, d4⟩ := dig_of (sg_lt (by omega) (by omega) hA) (by omega) hA
    obtain ⟨e, e1, e2, e3, e4⟩ := dig_of (sg_lt (by omega) (by omega) hC) (by omega) hC
    obtain ⟨x, x1, x2, x3⟩ := nu_val (hi := 99) d4 d2 (by omega) (by omega)
    obtain ⟨y, y1, y2, y3⟩ := nu_val (hi := 24) e4 e2 (by omega) (by omega)
    exact ⟨⟨x, x3, kx.symm.trans x1⟩, y, by omega, y3, ky.symm.trans y1⟩
  · obtain ⟨-, -, i, hi, ei, k3⟩ := of_F h hE
    exact absurd ((k3 ok).1.symm.trans hk) (by decide)
section
variable {B : Nat} {c : CS} {σ : Nat → Int32} {ar : Nat → Nat → Int32} {ns ns1 : Nat → Int32} {k L n h : Nat}
theorem win_nI {x a b : Nat} (h1 : a ≤ x) (h2 : x ≤ b) (hb : b < 2 ^ 31) : ¬ winC (nI x) (nI a) (nI b) = 0 := by
  unfold winC
  rw [if_pos ⟨nI_le h1 (by omega), nI_le h2 hb⟩]
  decide
theorem ob_eq {v : VV} {f : Nat → Int32} {q : Nat} (R0 : Rel B v σ n h) (hh : h ≤ 9999) (hB9 : 9 ≤ B) (hB : B < 9000) (ok : (ordC f L q).1 = true) : (obM σ (ordC f L q)).1 = (if (obeV v (ordC f L q)).1 = 0 then nI 0 else nI 1) ∧ ∃ n' h', Rel B (obeV v (ordC f L q)).2 (obM σ (ordC f L q)).2 n' h' ∧ h' ≤ 9999 := by
  rcases ord_cases ok with ⟨ek, i, hi, ei⟩ | ⟨ek, -⟩
  · rw [obM_s ek ei hi, obeV_s ek ei hi]
    have hn := R0.2.2.1
    by_cases hlt : n < 20
    · obtain ⟨⟨n', R1⟩, s5, s0⟩ := R0.send hB9 (by omega) (by omega) hlt hi
      have ew : whC (senC v i n) ((senC v i n).2.1 i 5) = whM σ i := by
        rw [s5]
        unfold whC whM
        rw [s0, if_pos R0.2.1.w_pos]
      rw [obS_a R0.2.2.2.2.1 hlt, obeS_a R0.onN hlt, ew]
      refine ⟨?_, n', h, R1, hh⟩
      by_cases c : whM σ i < 0
      · rw [if_pos c, if_pos c, if_pos rfl]
      · rw [if_neg c, if_neg c, if_neg (show ¬ (1 : Int32) = 0 by decide)]
    · rw [obS_b R0.2.2.2.2.1 hn hlt, obeS_b R0.onN hlt]
      exact ⟨(if_pos rfl).symm, n, h, R0, hh⟩
  · obtain ⟨⟨x, hx, ex⟩, y, y1, y2, ey⟩ := ord_rng ok ek
    rw [obM_r ek, obeV_r ek, ex, ey]
    have e104 : σ 104 = nI h := R0.2.2.2.2.2.1
    have e2 : v.1 2 = σ 104 := R0.1.2.2.1
    have hb : ¬ (winC (nI x) 0 99 = 0 ∨ winC (nI y) 1 24 = 0) := fun z => z.elim (win_nI (a := 0) (b := 99) (Nat.zero_le x) hx (by omega)) (win_nI (a := 1) (b := 24) y1 y2 (by omega))
    by_cases hm : σ 104 + nI y ≤ 9999
    · have er : raeM σ (nI x) (nI y) = 0 := (if_neg hb).trans (if_neg (fun z => z hm))
      rw [obR_b (by rw [er]; decide) (by omega), show obeR v (nI x) (nI y) = (1, pasC (nI x) v (nI y).toNatClampNeg) from if_neg (by rw [e2]; exact fun z => z hm), nI_clamp (by omega)]
      have hq : h + y ≤ 9999 := by
        rw [e104, nI_add] at hm
        exact nI_le_of (a := 9999) (b := h + y) (by omega) (by omega) hm
      obtain ⟨⟨n', R1⟩, -⟩ := R0.pass (am := nI x) (by rw [nI_ti (by omega)]; omega) (by rw [nI_ti (by omega)]; omega) y (by omega)
      exact ⟨(if_neg (show ¬ (1 : Int32) = 0 by decide)).symm, n', h + y, R1, hq⟩
    · have er : raeM σ (nI x) (nI y) = -1000004 := (if_neg hb).trans (if_pos hm)
      rw [obR_a (by rw [er]; decide), show obeR v (nI x) (nI y) = (0, v) from if_pos (by rw [e2]; exact hm)]
      exact ⟨(if_pos rfl).symm, n, h, R0, hh⟩
theorem run_eq {f : Nat → Int32} (hB9 : 9 ≤ B) (hB : B < 9000) : ∀ (z q : Nat) (d : Int32) (v : VV) (τ : Nat → Int32), (∃ n h, Rel B v τ n h ∧ h ≤ 9999) → (runL f L z q d v).1 = (runM f L z q d τ).1 ∧ ∃ n h, Rel B (runL f L z q d v).2 (runM f L z q d τ).2 n h ∧ h ≤ 9999 := by
  intro z
  induction z with
  | zero => intro q d v τ R; exact ⟨rfl, R⟩
  | succ z ih =>
    intro q d v τ R
    obtain ⟨n, h, R0, hh⟩ := id R
    unfold runL runM
    by_cases ok : (ordC f L q).1 = true
    · rw [if_pos ok, if_pos ok]
      obtain ⟨e, R1⟩ := ob_eq R0 hh hB9 hB ok
      have ed : d + (obM τ (ordC f L q)).1 = if (obeV v (ordC f L q)).1 = 0 then d else d + 1 := by
        rw [e]
        by_cases c : (obeV v (ordC f L q)).1 = 0
        · rw [if_pos c, if_pos c]
          exact Int32.add_zero d
        · rw [if_neg c, if_neg c]
          rfl
      rw [ed]
      exact ih _ _ _ _ R1
    · rw [if_neg ok, if_neg ok]
      exact ⟨rfl, R⟩
theorem sim_run (R : RelS B c σ ar k L) (hB9 : 9 ≤ B) (hB : B < 9000) (hf : fauC (ar 5) L 60 0 = none) (h0 : ns1 0 = nI (recK k)) (h1 : ns1 1 = nI 0) : SimO B (oRun c).1 (oRun c).2 (runM (ar 5) L 60 0 (nI 0) σ).1 ((runM (ar 5) L 60 0 (nI 0) σ).2, va_up ar 2 (savB k (ar 2) σ), ns1) := by
  obtain ⟨-, i2, i3, i4, i5, i6, -⟩ := id R
  have H := run_eq (L := L) (f := ar 5) hB9 hB 60 0 (nI 0) c.1 σ i5
  generalize hz : runL (ar 5) L 60 0 (nI 0) c.1 = z at H
  obtain ⟨d9, v9⟩ := z
  obtain ⟨e, n1, h1', R1, hh1⟩ := H
  have R2 := R.rec (Nat.le_refl B) R1 hh1
  obtain ⟨⟨j1, j2, j3, j4, j5, j6⟩, k2, k3, k4, k5, k6, k7, k8⟩ := R2.mono (Nat.le_succ B)
  have eo : oRun c = (d9, v9, recV c.2.2.1 c.2.1 c.1 (onN c.1), recK c.2.2.1, c.2.2.2.1, c.2.2.2.2.1, c.2.2.2.2.2.1, 0) := oRun_y (by rw [i3, i4]; exact hf) (by rw [i3, i4]; exact hz)
  rw [eo]
  exact ⟨e, recK k, 0, ⟨⟨j1, j2, j3, j4, Nat.zero_le 60, j6⟩, k2, rfl, k4, k5, k6, k7, k8⟩, h0, h1⟩
theorem sim_runb (R : RelS B c σ ar k L) (hf : ¬ fauC (ar 5) L 60 0 = none) (h0 : ns1 0 = nI k) (h1 : ns1 1 = nI L) : SimO B (oRun c).1 (oRun c).2 (-1000003) (σ, ar, ns1) := by
  obtain ⟨-, i2, i3, i4, -⟩ := id R
  rw [oRun_b (by rw [i3, i4]; exact hf)]
  exact sim_same R h0 h1 rfl
theorem sim_fault (R : RelS B c σ ar k L) (h0 : ns1 0 = nI k) (h1 : ns1 1 = nI L) : SimO B (oFault c).1 (oFault c).2 (match fauC (ar 5) L 60 0 with | none => -1000006 | some q => nI q) (σ, ar, ns1) := by
  obtain ⟨-, i2, i3, i4, -⟩ := id R
  refine sim_same R h0 h1 ?_
  show (match fauC c.2.2.2.2.2.1 c.2.2.2.2.2.2 60 0 with | none => (-1000006 : Int32) | some q => nI q) = _
  rw [i3, i4]
theorem sim_wipe (R : RelS B c σ ar k L) (hk : ns 0 = nI k) (hL : ns 1 = nI L) : SimO B (oWipe c).1 (oWipe c).2 (mWipe (σ, ar, ns)).1 (mWipe (σ, ar, ns)).2 := by
  obtain ⟨⟨j1, j2, j3, j4, j5, j6⟩, k2, k3, k4, k5, k6, k7, k8⟩ := R.mono (Nat.le_succ B)
  refine ⟨?_, k, 0, ⟨⟨j1, j2, j3, j4, Nat.zero_le 60, j6⟩, k2, rfl, k4, k5, k6, k7, k8⟩, (va_up_ne (k := 1) (j := 0) ns (nI 0) (by decide)).trans hk, va_up_self ns 1 (nI 0)⟩
  show nI c.2.2.2.2.2.2 = ns 1
  rw [k3, hL]
theorem chr_nar : ∀ e : Fin 127, vp_nar .char ((nI e.val).toUInt32 % 65536).toInt32 = nI e.val ∧ narrow .char (.int (nI e.val)) = .int (nI e.val) ∧ fits .char (.int (nI e.val)) = true := by decide +kernel
theorem chW_win {x : Int64} : ∀ (z p q : Nat), chW x z p = some q → ∀ r, p ≤ r → r < q → ¬ winC (codC x (nI r)) (nI 33) (nI 126) = 0 := by
  intro z
  induction z with
  | zero => intro p q e r h1 h2; cases e; omega
  | succ z ih =>
    intro p q e r h1 h2
    unfold chW at e
    split at e
    · cases e; omega
    · split at e
      · cases e
      · rename_i c1 c2
        by_cases hr : r = p
        · rw [hr]; exact c2
        · exact ih _ _ e r (by omega) h2
theorem chC_win {x : Int64} {q : Nat} (hq : q < 2 ^ 31) (e : chC x = nI q) (h0 : ¬ chC x = 0) : ∀ r, r < q → ∃ y, y ≤ 126 ∧ codC x (nI r) = nI y := by
  intro r hr
  unfold chC at e h0
  split at e
  · rename_i z
    rw [z] at h0
    exact absurd rfl h0
  · rename_i p z
    rw [z] at h0
    dsimp only at e h0
    have hp := chW_le x 8 0 p z
    by_cases cc : p = 8 ∨ shrC x (nI p) = 0
    · rw [if_pos cc] at e
      have : p = q := (nI_eq (by omega) (by omega)).mp e
      obtain ⟨y, y1, y2, y3⟩ := win_ix (by omega) (by omega) (chW_win 8 0 p z r (Nat.zero_le r) (by omega))
      exact ⟨y, y2, y3⟩
    · rw [if_neg cc] at h0
      exact absurd rfl h0
theorem put_eq {x : Int64} {q : Nat} {f : Nat → Int32} (hw : ∀ r, r < q → ∃ y, y ≤ 126 ∧ codC x (nI r) = nI y) (hf : ∀ i, i < 60 → narrow .char (.int (f i)) = .int (f i) ∧ fits .char (.int (f i)) = true) : ∀ b, b ≤ q → putF x q f L b = mpF x q f L b ∧ ∀ i, i < 60 → narrow .char (.int (mpF x q f L b i)) = .int (mpF x q f L b i) ∧ fits .char (.int (mpF x q f L b i)) = true := by
  intro b
  induction b with
  | zero => intro _; exact ⟨rfl, hf⟩
  | succ b ih =>
    intro hb
    obtain ⟨e1, e2⟩ := ih (by omega)
    obtain ⟨y, y1, y2⟩ := hw (q - 1 - b) (by omega)
    obtain ⟨n1, n2, n3⟩ := chr_nar ⟨y, by omega⟩
    have em : mpF x q f L (b + 1) = va_up (mpF x q f L b) (L + b) (nI y) := by rw [mpF_s rfl, y2]
    refine ⟨?_, fun i hi => ?_⟩
    · rw [em, putF_s rfl, e1, y2]
      exact congrArg _ n1
    · rw [em]
      by_cases hq : i = L + b
      · rw [hq, va_up_self]
        exact ⟨n2, n3⟩
      · rw [va_up_ne _ _ hq]
        exact e2 i hi
theorem sim_put1 (R : RelS B c σ ar k L) (hk : ns 0 = nI k) (hL : ns 1 = nI L) {x : Int64} (e : chC x = 0) : SimO B (oPut c x).1 (oPut c x).2 (-1000002) (σ, ar, ns) := by
  rw [show oPut c x = (-1000002, c) from if_pos e]
  exact sim_same R hk hL rfl
theorem sim_put2 (R : RelS B c σ ar k L) (hk : ns 0 = nI k) (hL : ns 1 = nI L) {x : Int64} (e : ¬ chC x = 0) (e2 : ¬ nI L + chC x ≤ 60) : SimO B (oPut c x).1 (oPut c x).2 (-1000004) (σ, ar, ns) := by
  rw [show oPut c x = (-1000004, c) from (if_neg e).trans (if_pos (by rw [R.2.2.1]; exact e2))]
  exact sim_same R hk hL rfl
theorem sim_put3 (R : RelS B c σ ar k L) {x : Int64} (e : ¬ chC x = 0) (e2 : nI L + chC x ≤ 60) (h0 : ns1 0 = nI k) (h1 : ns1 1 = nI (L + (chC x).toNatClampNeg)) : SimO B (oPut c x).1 (oPut c x).2 (nI (L + (chC x).toNatClampNeg)) (σ, va_up ar 5 (mpF x (chC x).toNatClampNeg (ar 5) L (chC x).toNatClampNeg), ns1) := by
  obtain ⟨⟨j1, j2, j3, j4, j5, j6⟩, k2, k3, k4, k5, k6, k7, k8⟩ := R.mono (Nat.le_succ B)
  obtain ⟨q, q8, eq⟩ := chC_q x
  have eo : oPut c x = (nI (c.2.2.2.2.2.2 + (chC x).toNatClampNeg), c.1, c.2.1, c.2.2.1, c.2.2.2.1, c.2.2.2.2.1, putF x (chC x).toNatClampNeg c.2.2.2.2.2.1 c.2.2.2.2.2.2 (chC x).toNatClampNeg, c.2.2.2.2.2.2 + (chC x).toNatClampNeg) := (if_neg e).trans (if_neg (by rw [k3]; exact fun z => z e2))
  have hw := chC_win (x := x) (q := q) (by omega) eq e
  have ec : (chC x).toNatClampNeg = q := by rw [eq, nI_clamp (by omega)]
  rw [eo, k3, ec]
  have hLq : L + q ≤ 60 := by
    rw [eq, nI_add] at e2
    have := k3 ▸ j5
    exact nI_le_of (a := 60) (b := L + q) (by omega) (by omega) e2
  rw [ec] at h1
  obtain ⟨p1, p2⟩ := put_eq (L := L) (f := c.2.2.2.2.2.1) hw j6 q (Nat.le_refl q)
  have e4 : ∀ P, (va_up ar 5 P) 4 = ar 4 := fun P => va_up_ne _ _ (by decide)
  have e3 : ∀ P, (va_up ar 5 P) 3 = ar 3 := fun P => va_up_ne _ _ (by decide)
  have e2' : ∀ P, (va_up ar 5 P) 2 = ar 2 := fun P => va_up_ne _ _ (by decide)
  refine ⟨rfl, k, L + q, ⟨⟨j1, j2, j3, j4, hLq, ?_⟩, k2, rfl, ?_, k5, ?_, ?_, ?_⟩, h0, h1⟩
  · show ∀ i, i < 60 → narrow .char (.int (putF x q c.2.2.2.2.2.1 L q i)) = _ ∧ _
    rw [p1]
    exact p2
  · dsimp only
    rw [va_up_self, p1, k4]
  · dsimp only
    rw [e2']; exact k6
  · dsimp only
    rw [e4]; exact k7
  · dsimp only
    rw [e4, e3]; exact k8
theorem sim_undo (R : RelS B c σ ar k L) (hk : ns 0 = nI k) (hL : ns 1 = nI L) : SimO B (oUndo c).1 (oUndo c).2 (mUndo k (σ, ar, ns)).1 (mUndo k (σ, ar, ns)).2 := by
  obtain ⟨⟨j1, j2, j3, j4, j5⟩, k2, k3, k4, k5, k6, k7, k8⟩ := R.mono (Nat.le_succ B)
  cases k with
  | zero =>
    rw [show oUndo c = (-1000005, c) by unfold oUndo; rw [k2]]
    exact sim_same R hk hL rfl
  | succ k =>
    rw [show oUndo c = (nI k, cpyC c.1 (c.2.1 k) (onN (c.2.1 k)), c.2.1, k, c.2.2.2) by unfold oUndo; rw [k2]]
    obtain ⟨n1, h1, R1, hh1⟩ := k6 k (by omega)
    rw [R1.onN]
    have R2 := (R1.cpy c.1).cg (τ := cpN 226 σ (fun z => ar 2 (226 * k + z))) (fun q hq => if_pos hq)
    rw [k2] at j2
    exact ⟨rfl, k, L, ⟨⟨R2.on, show k ≤ 6 by omega, j3, j4, j5⟩, rfl, k3, k4, ⟨n1, h1, R2, hh1⟩, fun j hj => k6 j (by omega), k7, k8⟩, va_up_self ns 0 (nI k), (va_up_ne (k := 0) (j := 1) ns (nI k) (by decide)).trans hL⟩
theorem gx2_out {x : Int32} (e : gxn 2 x = none) : winC x 0 1 = 0 := gx_out (n := 1) (by decide) e
theorem gx2_in {i : Nat} (hi : i < 2) : ¬ winC (nI i) 0 1 = 0 := gx_inn (n := 1) (by omega) (by decide)
theorem sim_save (R : RelS B c σ ar k L) (R0 : Rel B c.1 σ n h) (hh : h ≤ 9999) (hk : ns 0 = nI k) (hL : ns 1 = nI L) (x : Int32) : SimO B (oSave c x).1 (oSave c x).2 (mSave (σ, ar, ns) x).1 (mSave (σ, ar, ns) x).2 := by
  rcases gxn_cases (n := 2) (by decide) x with ⟨e1, -⟩ | ⟨i, hi, rfl, e1⟩
  · rw [mSave_n e1, show oSave c x = (-1000002, c) from if_pos (gx2_out e1)]
    exact sim_same R hk hL rfl
  · obtain ⟨⟨j1, j2, j3, j4, j5⟩, k2, k3, k4, k5, k6, k7, k8⟩ := R.mono (Nat.le_succ B)
    rw [mSave_y e1, show oSave c (nI i) = (c.1.1 2, c.1, c.2.1, c.2.2.1, va_up c.2.2.2.1 (nI i).toNatClampNeg (cpyC (c.2.2.2.1 (nI i).toNatClampNeg) c.1 (onN c.1)), upd c.2.2.2.2.1 (nI i).toNatClampNeg (vp_nar .boolean 1), c.2.2.2.2.2) from if_neg (gx2_in hi), nI_clamp (by omega), R0.onN]
    have R1 := (R0.mono (Nat.le_succ B)).cpy (c.2.2.2.1 i)
    have e4 : ∀ P Q, va_up (va_up ar 3 P) 4 Q 4 = Q := fun P Q => va_up_self _ _ _
    have e3 : ∀ P Q, va_up (va_up ar 3 P) 4 Q 3 = P := fun P Q => (va_up_ne _ _ (by decide)).trans (va_up_self _ _ _)
    have e2 : ∀ P Q, va_up (va_up ar 3 P) 4 Q 2 = ar 2 := fun P Q => (va_up_ne _ _ (by decide)).trans (va_up_ne _ _ (by decide))
    have e5 : ∀ P Q, va_up (va_up ar 3 P) 4 Q 5 = ar 5 := fun P Q => (va_up_ne _ _ (by decide)).trans (va_up_ne _ _ (by decide))
    have e34 : ∀ P, va_up ar 3 P 4 = ar 4 := fun P => va_up_ne _ _ (by decide)
    refine ⟨R0.1.2.2.1, k, L, ⟨⟨j1, j2, j3, fun j hj => ?_, j5⟩, k2, k3, ?_, k5, ?_, ?_, ?_⟩, hk, hL⟩
    · show OnW (va_up c.2.2.2.1 i _ j)
      by_cases hji : j = i
      · rw [hji, va_up_self]; exact R1.on
      · rw [va_up_ne _ _ hji]; exact j4 j hj
    · dsimp only
      rw [e5]; exact k4
    · dsimp only
      rw [e2]; exact k6
    · intro j hj
      dsimp only
      rw [e4, e34]
      show upd c.2.2.2.2.1 i (vp_nar .boolean 1) j = va_up (ar 4) i (vp_nar .boolean (nI 1)) j
      by_cases hji : j = i
      · rw [hji, va_up_self, pk_us]
        rfl
      · rw [va_up_ne _ _ hji, pk_un hji]
        exact k7 j hj
    · intro j hj
      dsimp only
      rw [e4, e3, e34]
      show ¬ va_up (ar 4) i (vp_nar .boolean (nI 1)) j = 0 → ∃ n h, Rel (B + 1) (va_up c.2.2.2.1 i _ j) _ n h ∧ h ≤ 9999
      by_cases hji : j = i
      · intro _
        rw [hji, va_up_self]
        exact ⟨n, h, R1.cg (fun q hq => wrN_in hq), hh⟩
      · rw [va_up_ne _ _ hji, va_up_ne _ _ hji]
        intro hz
        obtain ⟨n', h', R', hh'⟩ := k8 j hj hz
        exact ⟨n', h', R'.cg (fun q hq => wrN_out hq hji), hh'⟩
theorem sim_restore (R : RelS B c σ ar k L) (R0 : Rel B c.1 σ n h) (hk : ns 0 = nI k) (hL : ns 1 = nI L) (x : Int32) : SimO B (oRestore c x).1 (oRestore c x).2 (mRestore k (σ, ar, ns) x).1 (mRestore k (σ, ar, ns) x).2 := by
  rcases gxn_cases (n := 2) (by decide) x with ⟨e1, -⟩ | ⟨i, hi, rfl, e1⟩
  · rw [mRestore_n e1, show oRestore c x = (-1000002, c) from if_pos (gx2_out e1)]
    exact sim_same R hk hL rfl
  · obtain ⟨-, k2, k3, k4, k5, k6, k7, k8⟩ := id R
    have eo : oRestore c (nI i) = if c.2.2.2.2.1 (nI i).toNatClampNeg = 0 then (-1000005, c) else ((cpyC c.1 (c.2.2.2.1 (nI i).toNatClampNeg) (onN (c.2.2.2.1 (nI i).toNatClampNeg))).1 2, recX c (cpyC c.1 (c.2.2.2.1 (nI i).toNatClampNeg) (onN (c.2.2.2.1 (nI i).toNatClampNeg)))) := if_neg (gx2_in hi)
    rw [nI_clamp (by omega), k7 i hi] at eo
    by_cases hz : ar 4 i = 0
    · rw [mRestore_0 e1 hz, eo, if_pos hz]
      exact sim_same R hk hL rfl
    · rw [mRestore_y e1 hz, eo, if_neg hz]
      obtain ⟨n1, h1, R1, hh1⟩ := k8 i hi hz
      rw [R1.onN]
      have R2 := (R1.cpy c.1).cg (τ := cpN 226 σ (fun z => ar 3 (226 * i + z))) (fun q hq => if_pos hq)
      exact sim_rec R hL R2.1.2.2.1 (R2.mono (Nat.le_succ B)) hh1
end
