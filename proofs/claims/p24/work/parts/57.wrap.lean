/-! the contracts of the class, for a state in one piece -/
theorem fac_0 (v : VV) (i : Nat) : facC v i (nI 0) = v.2.1 i 0 := rfl
theorem fac_1 (v : VV) (i : Nat) : facC v i (nI 1) = v.2.1 i 1 := rfl
theorem fac_2 (v : VV) (i : Nat) : facC v i (nI 2) = v.2.1 i 2 := rfl
theorem fac_4 (v : VV) (i : Nat) : facC v i (nI 4) = v.2.1 i 4 := rfl
theorem fac_5 (v : VV) (i : Nat) : facC v i (nI 5) = v.2.1 i 5 := rfl
theorem fac_6 (v : VV) (i : Nat) : facC v i (nI 6) = whC v (v.2.1 i 5) := rfl
theorem fac_7 (v : VV) (i : Nat) : facC v i (nI 7) = v.2.1 i 6 := rfl
theorem fac_8 (v : VV) (i : Nat) : facC v i (nI 8) = v.2.1 i 7 := rfl
theorem led_0 (v : VV) (i : Nat) : ledV v i (nI 0) = v.2.1 i 8 := rfl
theorem led_1 (v : VV) (i : Nat) : ledV v i (nI 1) = v.2.1 i 9 := rfl
theorem led_2 (v : VV) (i : Nat) : ledV v i (nI 2) = whC v (v.2.1 i 10) := rfl
theorem led_3 (v : VV) (i : Nat) : ledV v i (nI 3) = v.2.1 i 5 - v.2.1 i 8 := rfl
theorem led_4 (v : VV) (i : Nat) : ledV v i (nI 4) = v.2.1 i 12 := rfl
theorem rnr_0 (v : VV) (i : Nat) : runV v i (nI 0) = v.2.2 i 0 := rfl
theorem rnr_1 (v : VV) (i : Nat) : runV v i (nI 1) = whC v (v.2.2 i 1) := rfl
theorem rnr_2 (v : VV) (i : Nat) : runV v i (nI 2) = v.2.2 i 2 := rfl
theorem rnr_3 (v : VV) (i : Nat) : runV v i (nI 3) = v.2.2 i 4 := rfl
theorem cnt_0 (c : CS) : oCount c (nI 0) = c.1.1 0 := rfl
theorem cnt_1 (c : CS) : oCount c (nI 1) = c.1.1 1 := rfl
theorem cnt_2 (c : CS) : oCount c (nI 2) = c.1.1 2 := rfl
theorem cnt_3 (c : CS) : oCount c (nI 3) = c.1.1 3 := rfl
theorem cnt_4 (c : CS) : oCount c (nI 4) = sumN (fun i => c.1.2.1 i 6) 6 := rfl
theorem cnt_5 (c : CS) : oCount c (nI 5) = sumN (fun i => c.1.2.1 i 7) 6 + sumN (fun i => c.1.2.1 i 4) 6 := rfl
theorem cnt_6 (c : CS) : oCount c (nI 6) = sumN (fun i => c.1.2.1 i 5) 6 := rfl
theorem cnt_7 (c : CS) : oCount c (nI 7) = sumN (fun i => c.1.2.1 i 8) 6 := rfl
theorem cnt_8 (c : CS) : oCount c (nI 8) = gapN c.1 6 := rfl
theorem q_gaugeOf (l : Launch) (g : GG) (A : Nat → Prop) (M : MM) (X : Nat) {c : CS} (hR : RXS g A M M X c) (hI : CI c) {i : Nat} (hi : i < 6) {y : Int32} {val : Int32} (e : facC c.1 i y = val) : Met l yX7_gaugeOf (Uw yX7_gaugeOf cX7_gaugeOf 4 (Option.some ClassFile.FieldType.int)) (rmD 2) (PreM [.ref X, .int (nI i), .int y] g A M) (PosI (fun r M1 => r = val ∧ M1 = M) g A) 0 0 A := by
  obtain ⟨now, hs, k, sl, sv, f, L⟩ := c
  have z := k_X7_gaugeOf l g A M X now hs k sl sv f L hR hI (nI i) y
  rw [show oGaugeOf (now, hs, k, sl, sv, f, L) (nI i) y = val from (by unfold oGaugeOf; rw [gxn_in hi (by decide)]; exact e)] at z
  exact z
theorem q_ledger (l : Launch) (g : GG) (A : Nat → Prop) (M : MM) (X : Nat) {c : CS} (hR : RXS g A M M X c) (hI : CI c) {i : Nat} (hi : i < 6) {y : Int32} {val : Int32} (e : ledV c.1 i y = val) : Met l yX7_ledger (Uw yX7_ledger cX7_ledger 5 (Option.some ClassFile.FieldType.int)) (rmD 1) (PreM [.ref X, .int (nI i), .int y] g A M) (PosI (fun r M1 => r = val ∧ M1 = M) g A) 0 0 A := by
  obtain ⟨now, hs, k, sl, sv, f, L⟩ := c
  have z := k_X7_ledger l g A M X now hs k sl sv f L hR hI (nI i) y
  rw [show oLedger (now, hs, k, sl, sv, f, L) (nI i) y = val from (by unfold oLedger; rw [gxn_in hi (by decide)]; exact e)] at z
  exact z
theorem q_runner (l : Launch) (g : GG) (A : Nat → Prop) (M : MM) (X : Nat) {c : CS} (hR : RXS g A M M X c) (hI : CI c) {j n : Nat} (hn : c.1.1 3 = nI n) (h20 : n ≤ 20) (hj : j < n) {y : Int32} {val : Int32} (e : runV c.1 j y = val) : Met l yX7_runner (Uw yX7_runner cX7_runner 4 (Option.some ClassFile.FieldType.int)) (rmD 1) (PreM [.ref X, .int (nI j), .int y] g A M) (PosI (fun r M1 => r = val ∧ M1 = M) g A) 0 0 A := by
  obtain ⟨now, hs, k, sl, sv, f, L⟩ := c
  have z := k_X7_runner l g A M X now hs k sl sv f L hR hI (nI j) y
  rw [show oRunner (now, hs, k, sl, sv, f, L) (nI j) y = val from (by unfold oRunner; rw [ru_in hn h20 hj]; exact e)] at z
  exact z
theorem q_count (l : Launch) (g : GG) (A : Nat → Prop) (M : MM) (X : Nat) {c : CS} (hR : RXS g A M M X c) (hI : CI c) {y : Int32} {val : Int32} (e : oCount c y = val) : Met l yX7_count (Uw yX7_count cX7_count 2 (Option.some ClassFile.FieldType.int)) (rmD 3) (PreM [.ref X, .int y] g A M) (PosI (fun r M1 => r = val ∧ M1 = M) g A) 0 0 A := by
  obtain ⟨now, hs, k, sl, sv, f, L⟩ := c
  have z := k_X7_count l g A M X now hs k sl sv f L hR hI y
  rw [show oCount (now, hs, k, sl, sv, f, L) y = val from e] at z
  exact z
theorem q_most (l : Launch) (g : GG) (A : Nat → Prop) (M : MM) (X : Nat) {c : CS} (hR : RXS g A M M X c) (hI : CI c)  : Met l yX7_mostUntold (Uw yX7_mostUntold cX7_mostUntold 5 (Option.some ClassFile.FieldType.int)) (rmD 1) (PreM [.ref X] g A M) (PosI (fun r M1 => r = mosL c.1 6 ∧ M1 = M) g A) 0 0 A := by
  obtain ⟨now, hs, k, sl, sv, f, L⟩ := c
  exact k_X7_mostUntold l g A M X now hs k sl sv f L hR hI
theorem q_until (l : Launch) (g : GG) (A : Nat → Prop) (M : MM) (X : Nat) {c : CS} (hR : RXS g A M M X c) (hI : CI c) (x y : Int32) : Met l yX7_untilRound (Uw yX7_untilRound cX7_untilRound 5 (Option.some ClassFile.FieldType.int)) (rmD 3) (PreM [.ref X, .int x, .int y] g A M) (PosI (fun r M1 => (∃ t, r = oUntil (cpyC t c.1 (onN c.1)) x y) ∧ RXS g A M M1 X c) g A) 0 0 A := by
  obtain ⟨now, hs, k, sl, sv, f, L⟩ := c
  exact k_X7_untilRound l g A M X now hs k sl sv f L hR hI x y
theorem q_sent (l : Launch) (g : GG) (A : Nat → Prop) (M : MM) (X : Nat) {c : CS} (hR : RXS g A M M X c) (hI : CI c) (x : Int32) : Met l yX7_ifSent (Uw yX7_ifSent cX7_ifSent 3 (Option.some ClassFile.FieldType.int)) (rmD 4) (PreM [.ref X, .int x] g A M) (PosI (fun r M1 => (∃ t, r = oIfSent (cpyC t c.1 (onN c.1)) x) ∧ RXS g A M M1 X c) g A) 0 0 A := by
  obtain ⟨now, hs, k, sl, sv, f, L⟩ := c
  exact k_X7_ifSent l g A M X now hs k sl sv f L hR hI x
theorem q_allc (l : Launch) (g : GG) (A : Nat → Prop) (M : MM) (X : Nat) {c : CS} (hR : RXS g A M M X c) (hI : CI c) (x : Int32) : Met l yX7_ifAllCome (Uw yX7_ifAllCome cX7_ifAllCome 3 (Option.some ClassFile.FieldType.int)) (rmD 5) (PreM [.ref X, .int x] g A M) (PosI (fun r M1 => (∃ t, r = oIfAll (cpyC t c.1 (onN c.1)) (onN c.1) x) ∧ RXS g A M M1 X c) g A) 0 0 A := by
  obtain ⟨now, hs, k, sl, sv, f, L⟩ := c
  exact k_X7_ifAllCome l g A M X now hs k sl sv f L hR hI x
theorem q_undo (l : Launch) (g : GG) (A : Nat → Prop) (M : MM) (X : Nat) {c : CS} (hR : RXS g A M M X c) (hI : CI c)  : Met l yX7_undo (Uw yX7_undo cX7_undo 1 (Option.some ClassFile.FieldType.int)) (rmD 4) (PreM [.ref X] g A M) (PosI (fun r M1 => r = (oUndo c).1 ∧ RXS g A M M1 X (oUndo c).2) g A) 0 0 A := by
  obtain ⟨now, hs, k, sl, sv, f, L⟩ := c
  exact k_X7_undo l g A M X now hs k sl sv f L hR hI
theorem q_rain (l : Launch) (g : GG) (A : Nat → Prop) (M : MM) (X : Nat) {c : CS} (hR : RXS g A M M X c) (hI : CI c) {y q h : Nat} (hy : y ≤ 99) (q1 : 1 ≤ q) (q2 : q ≤ 24) (hh : c.1.1 2 = nI h) (h9 : h + q ≤ 9999) : Met l yX7_rain (Uw yX7_rain cX7_rain 3 (Option.some ClassFile.FieldType.int)) (rmD 6) (PreM [.ref X, .int (nI y), .int (nI q)] g A M) (PosI (fun r M1 => r = pasT (nI y) c.1 q ∧ RXS g A M M1 X (recX c (pasC (nI y) c.1 q))) g A) 0 0 A := by
  obtain ⟨now, hs, k, sl, sv, f, L⟩ := c
  have z := k_X7_rain l g A M X now hs k sl sv f L hR hI (nI y) (nI q)
  rw [rain_eq hy q1 q2 hh h9] at z
  exact z
theorem q_send (l : Launch) (g : GG) (A : Nat → Prop) (M : MM) (X : Nat) {c : CS} (hR : RXS g A M M X c) (hI : CI c) {i n : Nat} (hi : i < 6) (hn : c.1.1 3 = nI n) (h20 : n < 20) : Met l yX7_send (Uw yX7_send cX7_send 2 (Option.some ClassFile.FieldType.int)) (rmD 5) (PreM [.ref X, .int (nI i)] g A M) (PosI (fun r M1 => r = whC (senC c.1 i n) ((senC c.1 i n).2.1 i 5) ∧ RXS g A M M1 X (recX c (senC c.1 i n))) g A) 0 0 A := by
  obtain ⟨now, hs, k, sl, sv, f, L⟩ := c
  have z := k_X7_send l g A M X now hs k sl sv f L hR hI (nI i)
  rw [send_eq hi hn h20] at z
  exact z
theorem q_lose (l : Launch) (g : GG) (A : Nat → Prop) (M : MM) (X : Nat) {c : CS} (hR : RXS g A M M X c) (hI : CI c) {j n : Nat} (hn : c.1.1 3 = nI n) (h20 : n ≤ 20) (hj : j < n) : Met l yX7_lose (Uw yX7_lose cX7_lose 4 (Option.some ClassFile.FieldType.int)) (rmD 5) (PreM [.ref X, .int (nI j)] g A M) (PosI (fun r M1 => r = c.1.2.2 j 0 ∧ RXS g A M M1 X (recX c (rmvC (cosC c.1 j) j n))) g A) 0 0 A := by
  obtain ⟨now, hs, k, sl, sv, f, L⟩ := c
  have z := k_X7_lose l g A M X now hs k sl sv f L hR hI (nI j)
  rw [lose_eq hn h20 hj] at z
  exact z
theorem q_twice (l : Launch) (g : GG) (A : Nat → Prop) (M : MM) (X : Nat) {c : CS} (hR : RXS g A M M X c) (hI : CI c) {j n : Nat} (hn : c.1.1 3 = nI n) (h20 : n < 20) (hj : j < n) : Met l yX7_twice (Uw yX7_twice cX7_twice 3 (Option.some ClassFile.FieldType.int)) (rmD 5) (PreM [.ref X, .int (nI j)] g A M) (PosI (fun r M1 => r = nI (n + 1) ∧ RXS g A M M1 X (recX c (twiC c.1 j n))) g A) 0 0 A := by
  obtain ⟨now, hs, k, sl, sv, f, L⟩ := c
  have z := k_X7_twice l g A M X now hs k sl sv f L hR hI (nI j)
  rw [twice_eq hn h20 hj] at z
  exact z
theorem q_gauge (l : Launch) (g : GG) (A : Nat → Prop) (M : MM) (X : Nat) {c : CS} (hR : RXS g A M M X c) (hI : CI c) {i : Nat} {a b d : Int32} {w : Nat} (hi : i < 6) (a1 : 1 ≤ a.toInt ∧ a.toInt ≤ 9) (b1 : 1 ≤ b.toInt ∧ b.toInt ≤ 50) (d1 : 0 ≤ d.toInt ∧ d.toInt ≤ 200) (w1 : w ≤ 9) : Met l yX7_gauge (Uw yX7_gauge cX7_gauge 8 (Option.some ClassFile.FieldType.int)) (rmD 4) (PreM [.ref X, .int (nI i), .int a, .int b, .int d, .int (nI w)] g A M) (PosI (fun r M1 => r = c.1.2.1 i 4 ∧ RXS g A M M1 X (recX c (gauV c.1 i a b d (nI w)))) g A) 0 0 A := by
  obtain ⟨now, hs, k, sl, sv, f, L⟩ := c
  have z := k_X7_gauge l g A M X now hs k sl sv f L hR hI (nI i) a b d (nI w)
  rw [gauge_eq hi a1 b1 d1 w1] at z
  exact z
theorem q_set0 (l : Launch) (g : GG) (A : Nat → Prop) (M : MM) (X : Nat) {c : CS} (hR : RXS g A M M X c) (hI : CI c) {x n : Nat} (hn : c.1.1 3 = nI n) (h20 : n ≤ 20) (x1 : 4 ≤ x) (x2 : x ≤ 60) : Met l yX7_set (Uw yX7_set cX7_set 4 (Option.some ClassFile.FieldType.int)) (rmD 4) (PreM [.ref X, .int (nI 0), .int (nI x)] g A M) (PosI (fun r M1 => r = c.1.1 0 ∧ RXS g A M M1 X (recX c (chgC c.1 n (nI x)))) g A) 0 0 A := by
  obtain ⟨now, hs, k, sl, sv, f, L⟩ := c
  have z := k_X7_set l g A M X now hs k sl sv f L hR hI 0 (nI x)
  rw [set0_eq hn h20 x1 x2] at z
  exact z
theorem q_set1 (l : Launch) (g : GG) (A : Nat → Prop) (M : MM) (X : Nat) {c : CS} (hR : RXS g A M M X c) (hI : CI c) {x : Int32} (x1 : x = 0 ∨ x = 1) : Met l yX7_set (Uw yX7_set cX7_set 4 (Option.some ClassFile.FieldType.int)) (rmD 4) (PreM [.ref X, .int (nI 1), .int x] g A M) (PosI (fun r M1 => r = c.1.1 1 ∧ RXS g A M M1 X (recX c (vW c.1 1 x))) g A) 0 0 A := by
  obtain ⟨now, hs, k, sl, sv, f, L⟩ := c
  have z := k_X7_set l g A M X now hs k sl sv f L hR hI 1 x
  rw [set1_eq x1] at z
  exact z
