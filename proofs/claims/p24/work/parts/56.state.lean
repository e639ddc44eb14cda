/-! whole states: what holds of the valley and of all that can be undone -/
def zPP (B H T : Nat) (v : VV) : Prop := ∃ n h, h ≤ H ∧ 0 ≤ (v.1 1).toInt ∧ zPI B T v n h
def zSI (B H T : Nat) (c : CS) : Prop := CI c ∧ zPP B H T c.1 ∧ ∀ j, j < c.2.2.1 → zPP B H T (c.2.1 j)
theorem zPP.mono {B B' H H' T T' : Nat} {v : VV} (P : zPP B H T v) (hB : B ≤ B') (hH : H ≤ H') (hT : T ≤ T') : zPP B' H' T' v := by
  obtain ⟨n, h, hh, hg, P⟩ := P
  exact ⟨n, h, by omega, hg, P.mono hB hT⟩
theorem zSI.mono {B B' H H' T T' : Nat} {c : CS} (S : zSI B H T c) (hB : B ≤ B') (hH : H ≤ H') (hT : T ≤ T') : zSI B' H' T' c := ⟨S.1, S.2.1.mono hB hH hT, fun j hj => (S.2.2 j hj).mono hB hH hT⟩
theorem zPI.on {B T n h : Nat} {v : VV} (P : zPI B T v n h) : OnW v := ⟨n, P.1, P.2.1⟩
theorem zPI.onN {B T n h : Nat} {v : VV} (P : zPI B T v n h) : onN v = n := onN_eq P.2.1 P.1
theorem zPP.on {B H T : Nat} {v : VV} (P : zPP B H T v) : OnW v := by
  obtain ⟨n, h, -, -, P⟩ := P
  exact P.on
theorem recV_at {k : Nat} {hs : Nat → VV} {w : VV} {n : Nat} : recV k hs w n (if k = 6 then 5 else k) = cpyC ((if k = 6 then rotN 0 6 hs else hs) (if k = 6 then 5 else k)) w n := va_up_self _ _ _
theorem recV_lo {k : Nat} {hs : Nat → VV} {w : VV} {n j : Nat} (h : j < (if k = 6 then 5 else k)) : recV k hs w n j = hs (if k = 6 then j + 1 else j) := by
  unfold recV
  by_cases hk : k = 6
  · rw [if_pos hk] at h
    rw [if_pos hk, if_pos hk, if_pos hk, va_up_ne _ _ (by omega), rot_lo _ (by omega), if_neg (by omega)]
  · rw [if_neg hk] at h
    rw [if_neg hk, if_neg hk, if_neg hk, va_up_ne _ _ (by omega)]
theorem recK_s (k : Nat) : recK k = (if k = 6 then 5 else k) + 1 := by
  unfold recK
  by_cases hk : k = 6
  · rw [if_pos hk, if_pos hk]
  · rw [if_neg hk, if_neg hk]
theorem zSI.rec {B B' H H' T T' : Nat} {c : CS} (S : zSI B H T c) {v : VV} (P : zPP B' H' T' v) (hB : B ≤ B') (hH : H ≤ H') (hT : T ≤ T') : zSI B' H' T' (recX c v) := by
  obtain ⟨⟨c1, c2, c3, c4⟩, s1, s2⟩ := S
  refine ⟨⟨P.on, recK_le c2, recV_on c3 c1 c2, c4⟩, P, fun j hj => ?_⟩
  have hj : j < recK c.2.2.1 := hj
  show zPP B' H' T' (recV c.2.2.1 c.2.1 c.1 (onN c.1) j)
  rw [recK_s] at hj
  by_cases e : j = (if c.2.2.1 = 6 then 5 else c.2.2.1)
  · rw [e, recV_at]
    obtain ⟨n, h, hh, hg, Q⟩ := s1
    rw [Q.onN]
    exact ⟨n, h, by omega, by rw [(Eq2.cpy _ c.1 n).1 1 (by omega)]; exact hg, (Q.cg (Eq2.cpy _ _ _)).mono hB hT⟩
  · rw [recV_lo (by omega)]
    refine (s2 _ ?_).mono hB hH hT
    by_cases hk : c.2.2.1 = 6
    · rw [if_pos hk] at hj e ⊢; omega
    · rw [if_neg hk] at hj e ⊢; omega
/-- the latest state that can be undone, and the one before it -/
def zTop (c : CS) (x : VV) (n : Nat) : Prop := ∃ q, c.2.2.1 = q + 1 ∧ Eq2 (c.2.1 q) x n ∧ onN (c.2.1 q) = n
def zTop2 (c : CS) (x : VV) (n : Nat) : Prop := ∃ q, c.2.2.1 = q + 2 ∧ Eq2 (c.2.1 q) x n ∧ onN (c.2.1 q) = n
theorem rec_top {c : CS} {n : Nat} (h : onN c.1 = n) (v : VV) : zTop (recX c v) c.1 n := by
  refine ⟨_, recK_s c.2.2.1, ?_, ?_⟩
  · show Eq2 (recV c.2.2.1 c.2.1 c.1 (onN c.1) _) c.1 n
    rw [recV_at, h]
    exact Eq2.cpy _ _ _
  · show onN (recV c.2.2.1 c.2.1 c.1 (onN c.1) _) = n
    rw [recV_at]
    exact h
theorem rec_top2 {c : CS} {x : VV} {n : Nat} (h : zTop c x n) (v : VV) : zTop2 (recX c v) x n := by
  obtain ⟨q, h1, h2, h3⟩ := h
  have e : recV c.2.2.1 c.2.1 c.1 (onN c.1) (if c.2.2.1 = 6 then 4 else q) = c.2.1 q := by
    rw [recV_lo (by split <;> omega)]
    refine congrArg c.2.1 ?_
    by_cases hk : c.2.2.1 = 6
    · rw [if_pos hk, if_pos hk]; omega
    · rw [if_neg hk, if_neg hk]
  refine ⟨if c.2.2.1 = 6 then 4 else q, ?_, ?_, ?_⟩
  · show recK c.2.2.1 = _
    rw [recK_s]
    by_cases hk : c.2.2.1 = 6
    · rw [if_pos hk, if_pos hk]
    · rw [if_neg hk, if_neg hk]; omega
  · show Eq2 (recV c.2.2.1 c.2.1 c.1 (onN c.1) _) x n
    rw [e]; exact h2
  · show onN (recV c.2.2.1 c.2.1 c.1 (onN c.1) _) = n
    rw [e]; exact h3
theorem undo_eq {c : CS} {q : Nat} (h : c.2.2.1 = q + 1) : oUndo c = (nI q, cpyC c.1 (c.2.1 q) (onN (c.2.1 q)), c.2.1, q, c.2.2.2) := by
  unfold oUndo
  rw [h]
theorem undo_top {c : CS} {x : VV} {n : Nat} (h : zTop c x n) : Eq2 (oUndo c).2.1 x n ∧ ∃ q, (oUndo c).1 = nI q ∧ c.2.2.1 = q + 1 := by
  obtain ⟨q, h1, h2, h3⟩ := h
  rw [undo_eq h1]
  refine ⟨?_, q, rfl, h1⟩
  show Eq2 (cpyC c.1 (c.2.1 q) (onN (c.2.1 q))) x n
  rw [h3]
  exact (Eq2.cpy _ _ _).tr h2
theorem undo_top2 {c : CS} {x : VV} {n : Nat} (h : zTop2 c x n) : zTop (oUndo c).2 x n := by
  obtain ⟨q, h1, h2, h3⟩ := h
  rw [undo_eq h1]
  exact ⟨q, rfl, h2, h3⟩
theorem zSI.undo {B H T : Nat} {c : CS} (S : zSI B H T c) : zSI B H T (oUndo c).2 := by
  cases hk : c.2.2.1 with
  | zero =>
    have e : (oUndo c).2 = c := by unfold oUndo; rw [hk]
    rw [e]; exact S
  | succ q =>
    rw [undo_eq hk]
    obtain ⟨⟨c1, c2, c3, c4⟩, s1, s2⟩ := S
    obtain ⟨n, h, hh, hg, Q⟩ := s2 q (by omega)
    have P : zPP B H T (cpyC c.1 (c.2.1 q) (onN (c.2.1 q))) := ⟨n, h, hh, by rw [(Eq2.cpy _ (c.2.1 q) _).1 1 (by omega)]; exact hg, by rw [Q.onN]; exact Q.cg (Eq2.cpy _ _ _)⟩
    exact ⟨⟨P.on, (by show q ≤ 6; omega), c3, c4⟩, P, fun j hj => s2 j (by have : j < q := hj; omega)⟩
/-! two rows that agree but for the way -/
def Row3 (r q : Nat → Int32) : Prop := ∀ k, k < 16 → k ≠ 3 → r k = q k
theorem Row3.up {r q : Nat → Int32} (h : Row3 r q) (k : Nat) (x : Int32) : Row3 (va_up r k x) (va_up q k x) := by
  intro j hj h3
  unfold va_up
  by_cases e : j = k
  · rw [if_pos e, if_pos e]
  · rw [if_neg e, if_neg e]; exact h j hj h3
theorem Row3.hea {r q : Nat → Int32} (h : Row3 r q) (w g vm t hh c : Int32) : Row3 (heaR w g vm r t hh c) (heaR w g vm q t hh c) := by
  have ew : wenR w g vm r t c = wenR w g vm q t c := by
    unfold wenR expR we2R
    rw [h 0 (by omega) (by omega), h 1 (by omega) (by omega), h 10 (by omega) (by omega), h 11 (by omega) (by omega)]
  unfold heaR
  rw [h 9 (by omega) (by omega), h 12 (by omega) (by omega), h 10 (by omega) (by omega), h 13 (by omega) (by omega), h 14 (by omega) (by omega)]
  by_cases h1 : hh < q 9
  · rw [if_pos h1, if_pos h1]; exact h.up 13 _
  · rw [if_neg h1, if_neg h1]
    by_cases h2 : 0 < q 12 ∧ hh = q 9 ∧ whI w t = whI w (q 10)
    · rw [if_pos h2, if_pos h2]; exact h.up 14 _
    · rw [if_neg h2, if_neg h2]
      unfold takR
      rw [ew, h 8 (by omega) (by omega), h 12 (by omega) (by omega)]
      exact ((((h.up 8 _).up 12 _).up 9 _).up 10 _).up 11 _
/-! answers of the class, by the state -/
theorem win_in {x lo hi : Int32} (h1 : lo ≤ x) (h2 : x ≤ hi) : ¬ winC x lo hi = 0 := by
  unfold winC
  rw [if_pos ⟨h1, h2⟩]
  decide
theorem rain_eq {c : CS} {y q h : Nat} (hy : y ≤ 99) (q1 : 1 ≤ q) (q2 : q ≤ 24) (hh : c.1.1 2 = nI h) (h9 : h + q ≤ 9999) : oRain c (nI y) (nI q) = (pasT (nI y) c.1 q, recX c (pasC (nI y) c.1 q)) := by
  unfold oRain
  rw [if_neg (fun z => z.elim (win_in (nI_le (a := 0) (by omega) (by omega)) (nI_le (b := 99) (by omega) (by omega))) (win_in (nI_le (a := 1) (by omega) (by omega)) (nI_le (b := 24) (by omega) (by omega)))), if_neg (fun z => z (by rw [hh, nI_add]; exact nI_le (b := 9999) (by omega) (by omega))), nI_clamp (by omega)]
theorem send_eq {c : CS} {i n : Nat} (hi : i < 6) (hn : c.1.1 3 = nI n) (h20 : n < 20) : oSend c (nI i) = (whC (senC c.1 i n) ((senC c.1 i n).2.1 i 5), recX c (senC c.1 i n)) := by
  unfold oSend
  rw [gxn_in hi (by decide)]
  dsimp only
  rw [if_neg (by rw [hn]; exact nI_ge h20 (by omega)), onN_eq hn (by omega)]
theorem ru_in {c : CS} {j n : Nat} (hn : c.1.1 3 = nI n) (h20 : n ≤ 20) (hj : j < n) : ruN c (nI j) = some j := by
  unfold ruN
  rw [if_neg (by rw [hn]; exact nI_ge hj (by omega)), gxn_in (by omega) (by decide)]
theorem lose_eq {c : CS} {j n : Nat} (hn : c.1.1 3 = nI n) (h20 : n ≤ 20) (hj : j < n) : oLose c (nI j) = (c.1.2.2 j 0, recX c (rmvC (cosC c.1 j) j n)) := by
  unfold oLose
  rw [ru_in hn h20 hj]
  dsimp only
  rw [onN_eq hn h20]
theorem twice_eq {c : CS} {j n : Nat} (hn : c.1.1 3 = nI n) (h20 : n < 20) (hj : j < n) : oTwice c (nI j) = (nI (n + 1), recX c (twiC c.1 j n)) := by
  unfold oTwice
  rw [ru_in hn (by omega) hj]
  dsimp only
  rw [if_neg (by rw [hn]; exact nI_ge h20 (by omega)), onN_eq hn (by omega)]
  congr 1
  show va_up c.1.1 3 (nI n + 1) 3 = _
  rw [va_up_self]; exact nI_1 n
theorem gauge_eq {c : CS} {i : Nat} {a b d : Int32} {w : Nat} (hi : i < 6) (a1 : 1 ≤ a.toInt ∧ a.toInt ≤ 9) (b1 : 1 ≤ b.toInt ∧ b.toInt ≤ 50) (d1 : 0 ≤ d.toInt ∧ d.toInt ≤ 200) (w1 : w ≤ 9) : oGauge c (nI i) a b d (nI w) = (c.1.2.1 i 4, recX c (gauV c.1 i a b d (nI w))) := by
  rw [oGauge_y (gxn_in hi (by decide)) (win_in (ti_le.mpr a1.1) (ti_le.mpr a1.2)) (win_in (ti_le.mpr b1.1) (ti_le.mpr b1.2)) (win_in (ti_le.mpr d1.1) (ti_le.mpr d1.2)) (win_in (nI_le (a := 0) (by omega) (by omega)) (nI_le (b := 9) (by omega) (by omega))), gau_k _ _ _ _ _ _ (by omega)]
theorem set0_eq {c : CS} {x n : Nat} (hn : c.1.1 3 = nI n) (h20 : n ≤ 20) (x1 : 4 ≤ x) (x2 : x ≤ 60) : oSet c 0 (nI x) = (c.1.1 0, recX c (chgC c.1 n (nI x))) := by
  rw [oSet_a rfl (win_in (nI_le (a := 4) (by omega) (by omega)) (nI_le (b := 60) (by omega) (by omega))), onN_eq hn h20]
theorem set1_eq {c : CS} {x : Int32} (x1 : x = 0 ∨ x = 1) : oSet c 1 x = (c.1.1 1, recX c (vW c.1 1 x)) := by
  rw [oSet_b rfl (by rcases x1 with rfl | rfl <;> decide)]
theorem until_eq {c : CS} {t : VV} {i y n : Nat} (hi : i < 6) (hy : y ≤ 99) : oUntil (cpyC t c.1 n) (nI i) (nI y) = unR (c.1.1 0) (nI y) 501 0 (c.1.2.1 i) := by
  rw [unt_e (gxn_in hi (by decide)) (win_in (nI_le (a := 0) (by omega) (by omega)) (nI_le (b := 99) (by omega) (by omega))), unt_row]
  have e := Eq2.cpy t c.1 n
  rw [e.1 0 (by omega)]
  exact RowE.un _ _ _ _ _ _ (e.2.1 i hi)
theorem sent_eq {c : CS} {t : VV} {i n : Nat} (hi : i < 6) : oIfSent (cpyC t c.1 n) (nI i) = c.1.2.1 i 5 - heaR (c.1.1 0) (c.1.1 1) (c.1.2.1 0 0) (c.1.2.1 i) (c.1.2.1 i 5) (c.1.1 2) (c.1.2.1 0 6) 8 := by
  have e := Eq2.cpy t c.1 n
  obtain ⟨u, hu⟩ : ∃ u, u = cpyC t c.1 n := ⟨_, rfl⟩
  rw [← hu] at e ⊢
  unfold oIfSent
  rw [gxn_in hi (by decide)]
  dsimp only
  obtain ⟨w, hw⟩ : ∃ w, w = vG (vW u 3 0) i 3 0 := ⟨_, rfl⟩
  rw [← hw]
  have wr : ∀ j, j < 6 → ∀ k, k < 16 → k ≠ 3 → w.2.1 j k = c.1.2.1 j k := fun j hj k hk h3 => by
    rw [hw]
    show up2 u.2.1 i 3 0 j k = _
    by_cases ej : j = i
    · rw [ej, up2_k h3]; exact e.2.1 i hi k hk
    · rw [up2_i ej]; exact e.2.1 j hj k hk
  have ww : ∀ k, k < 3 → w.1 k = c.1.1 k := fun k hk => by
    rw [hw]
    show va_up u.1 3 0 k = _
    rw [va_up_ne _ _ (by omega)]; exact e.1 k (by omega)
  have w3 : w.2.1 i 3 = 0 := by
    rw [hw]
    exact up2_s
  rw [sen_5 w hi (by omega) i, (sen_now (n := 0) hi w3).2, va_up_self, wr i hi 5 (by omega) (by omega), wr 0 (by omega) 0 (by omega) (by omega), wr 0 (by omega) 6 (by omega) (by omega), ww 0 (by omega), ww 1 (by omega), ww 2 (by omega)]
  congr 1
  have hr : ∀ k, k < 16 → k ≠ 3 → w.2.1 i k = c.1.2.1 i k := wr i hi
  obtain ⟨r, er⟩ : ∃ r, r = c.1.2.1 i := ⟨_, rfl⟩
  obtain ⟨q, eq⟩ : ∃ q, q = w.2.1 i := ⟨_, rfl⟩
  rw [← er, ← eq] at hr ⊢
  exact Row3.hea hr _ _ _ _ _ _ 8 (by omega) (by omega)
