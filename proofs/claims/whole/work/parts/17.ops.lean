def putF (x : Int64) (q : Nat) (f : Nat → Int32) (L : Nat) : Nat → Nat → Int32
  | 0 => f
  | b + 1 => va_up (putF x q f L b) (L + b) (vp_nar .char ((codC x (nI (q - 1 - b))).toUInt32 % 65536).toInt32)
theorem putF_s {x : Int64} {q : Nat} {f : Nat → Int32} {L b r : Nat} (h : r = q - 1 - b) : putF x q f L (b + 1) = va_up (putF x q f L b) (L + b) (vp_nar .char ((codC x (nI r)).toUInt32 % 65536).toInt32) := by
  subst h
  rfl
def oPut (c : CS) (x : Int64) : Int32 × CS := if chC x = 0 then (-1000002, c) else if ¬ nI c.2.2.2.2.2.2 + chC x ≤ 60 then (-1000004, c) else
  (nI (c.2.2.2.2.2.2 + (chC x).toNatClampNeg), c.1, c.2.1, c.2.2.1, c.2.2.2.1, c.2.2.2.2.1, putF x (chC x).toNatClampNeg c.2.2.2.2.2.1 c.2.2.2.2.2.2 (chC x).toNatClampNeg, c.2.2.2.2.2.2 + (chC x).toNatClampNeg)
theorem chC_q (x : Int64) : ∃ q, q ≤ 8 ∧ chC x = nI q := by
  unfold chC
  split
  · exact ⟨0, by omega, rfl⟩
  · rename_i p h
    have := chW_le x 8 0 p h
    split
    · exact ⟨p, by omega, rfl⟩
    · exact ⟨0, by omega, rfl⟩
def obeS (v : VV) (i : Nat) : Int32 × VV := if onN v < 20 then (if whC (senC v i (onN v)) ((senC v i (onN v)).2.1 i 5) < 0 then 0 else 1, senC v i (onN v)) else (0, v)
theorem obeS_a {v : VV} {i n : Nat} (hN : onN v = n) (h : n < 20) : obeS v i = (if whC (senC v i n) ((senC v i n).2.1 i 5) < 0 then 0 else 1, senC v i n) := by unfold obeS; rw [hN, if_pos h]
theorem obeS_b {v : VV} {i n : Nat} (hN : onN v = n) (h : ¬ n < 20) : obeS v i = (0, v) := by unfold obeS; rw [hN, if_neg h]
def obeR (v : VV) (x y : Int32) : Int32 × VV := if ¬ v.1 2 + y ≤ 9999 then (0, v) else (1, pasC x v y.toNatClampNeg)
def obeV (v : VV) (o : Bool × Nat × Int32 × Int32 × Int32) : Int32 × VV := if o.2.2.1 = 115 then obeS v o.2.2.2.1.toNatClampNeg else obeR v o.2.2.2.1 o.2.2.2.2
def runL (f : Nat → Int32) (L : Nat) : Nat → Nat → Int32 → VV → Int32 × VV
  | 0, _, d, v => (d, v)
  | z + 1, q, d, v => if (ordC f L q).1 = true then runL f L z ((ordC f L q).2.1 + 1) (if (obeV v (ordC f L q)).1 = 0 then d else d + 1) (obeV v (ordC f L q)).2 else (d, v)
def oRun (c : CS) : Int32 × CS := match fauC c.2.2.2.2.2.1 c.2.2.2.2.2.2 60 0 with
  | some _ => (-1000003, c)
  | none =>
    let r := runL c.2.2.2.2.2.1 c.2.2.2.2.2.2 60 0 0 c.1
    (r.1, r.2, recV c.2.2.1 c.2.1 c.1 (onN c.1), recK c.2.2.1, c.2.2.2.1, c.2.2.2.2.1, c.2.2.2.2.2.1, 0)
theorem oRun_b {c : CS} (h : ¬ fauC c.2.2.2.2.2.1 c.2.2.2.2.2.2 60 0 = none) : oRun c = (-1000003, c) := by
  unfold oRun
  split
  · rfl
  · rename_i z; exact absurd z h
theorem oRun_y {c : CS} (h : fauC c.2.2.2.2.2.1 c.2.2.2.2.2.2 60 0 = none) {d : Int32} {v : VV} (h2 : runL c.2.2.2.2.2.1 c.2.2.2.2.2.2 60 0 0 c.1 = (d, v)) : oRun c = (d, v, recV c.2.2.1 c.2.1 c.1 (onN c.1), recK c.2.2.1, c.2.2.2.1, c.2.2.2.2.1, c.2.2.2.2.2.1, 0) := by
  unfold oRun
  rw [h, h2]
theorem fauC_b (f : Nat → Int32) (L : Nat) : ∀ (z q r : Nat), fauC f L z q = some r → r ≤ q + 7 * z + 7 := by
  intro z
  induction z with
  | zero => intro q r h; cases h; omega
  | succ z ih =>
    intro q r h
    have h6 := ordC_q f L q
    unfold fauC at h
    split at h
    · split at h
      · cases h
      · split at h
        · have := ih _ _ h; omega
        · cases h; omega
    · cases h; omega
theorem fau_none {f : Nat → Int32} {L : Nat} (h : (match fauC f L 60 0 with | none => -1000006 | some q => nI q) = (-1000006 : Int32)) : fauC f L 60 0 = none := by
  cases e : fauC f L 60 0 with
  | none => rfl
  | some q =>
    rw [e] at h
    have hb := fauC_b f L 60 0 q e
    exfalso
    have h2 : ¬ nI q < 0 := nI_pos (by omega)
    rw [show nI q = -1000006 from h] at h2
    exact h2 (by decide)
theorem run_s {f : Nat → Int32} {L o q : Nat} {d : Int32} {v : VV} (ho : o < 60) : runL f L (60 - o) q d v = if (ordC f L q).1 = true then runL f L (60 - (o + 1)) ((ordC f L q).2.1 + 1) (if (obeV v (ordC f L q)).1 = 0 then d else d + 1) (obeV v (ordC f L q)).2 else (d, v) := by
  rw [show 60 - o = (60 - (o + 1)) + 1 by omega]
  rfl
theorem run_0 {f : Nat → Int32} {L o q : Nat} {d : Int32} {v : VV} (h : 60 ≤ o) (h2 : o ≤ 60) : runL f L (60 - o) q d v = (d, v) := by
  rw [show 60 - o = 0 by omega]
  rfl
theorem run_1 {f : Nat → Int32} {L o q : Nat} {d : Int32} {v : VV} (h : o < 60) (ok : ¬ (ordC f L q).1 = true) : runL f L (60 - o) q d v = (d, v) := by rw [run_s h, if_neg ok]
theorem run_y {f : Nat → Int32} {L o q : Nat} {d : Int32} {v : VV} (h : o < 60) (ok : (ordC f L q).1 = true) (c : ¬ (obeV v (ordC f L q)).1 = 0) : runL f L (60 - (o + 1)) ((ordC f L q).2.1 + 1) (d + 1) (obeV v (ordC f L q)).2 = runL f L (60 - o) q d v := by rw [run_s h, if_pos ok, if_neg c]
theorem run_n {f : Nat → Int32} {L o q : Nat} {d : Int32} {v : VV} (h : o < 60) (ok : (ordC f L q).1 = true) (c : (obeV v (ordC f L q)).1 = 0) : runL f L (60 - (o + 1)) ((ordC f L q).2.1 + 1) d (obeV v (ordC f L q)).2 = runL f L (60 - o) q d v := by rw [run_s h, if_pos ok, if_pos c]
theorem rnC_rng {f : Nat → Int32} {L q : Nat} {lo hi : Int32} (h : 0 ≤ (rnC f L q lo hi).1) (hh : 0 ≤ hi) : (rnC f L q lo hi).1 ≤ hi := by
  unfold rnC at h ⊢
  split
  · exact Int32.le_trans (show (-1 : Int32) ≤ 0 by decide) hh
  · rename_i c1
    split
    · exact Int32.not_lt.mp (fun z => c1 (Or.inr z))
    · split
      · exact Int32.le_trans (show (-1 : Int32) ≤ 0 by decide) hh
      · rename_i c3
        exact Int32.not_lt.mp c3
theorem ord_cases {f : Nat → Int32} {L q : Nat} (ok : (ordC f L q).1 = true) : ((ordC f L q).2.2.1 = 115 ∧ ∃ i, i < 6 ∧ (ordC f L q).2.2.2.1 = nI i) ∨ ((ordC f L q).2.2.1 = 114 ∧ ∃ i, i ≤ 24 ∧ (ordC f L q).2.2.2.2 = nI i) := by
  by_cases h1 : sgC f L q = 114
  · right
    rw [ord_r h1] at ok ⊢
    refine ⟨rfl, ?_⟩
    unfold raiC at ok ⊢
    split at ok
    · cases ok
    · rename_i c
      rw [if_neg c]
      have h0 := of_decide_eq_true ok
      obtain ⟨j, hj, e, -⟩ := clampQ (hi := 24) (n := 24) h0 (rnC_rng h0 (by decide)) rfl (by decide)
      exact ⟨j, hj, e⟩
  · by_cases h2 : sgC f L q = 115
    · left
      rw [ord_s h2] at ok ⊢
      have h0 := of_decide_eq_true ok
      obtain ⟨j, hj, e, -⟩ := clampQ (hi := 5) (n := 5) h0 (rnC_rng h0 (by decide)) rfl (by decide)
      exact ⟨rfl, j, by omega, e⟩
    · rw [ord_n h1 h2] at ok
      cases ok
theorem obeV_s {v : VV} {o : Bool × Nat × Int32 × Int32 × Int32} {i : Nat} (h : o.2.2.1 = 115) (h2 : o.2.2.2.1 = nI i) (hi : i < 6) : obeV v o = obeS v i := by
  unfold obeV
  rw [if_pos h, h2, nI_clamp (by omega)]
theorem obeV_r {v : VV} {o : Bool × Nat × Int32 × Int32 × Int32} (h : o.2.2.1 = 114) : obeV v o = obeR v o.2.2.2.1 o.2.2.2.2 := by
  unfold obeV
  rw [if_neg (by rw [h]; decide)]
theorem seR_3 (v : VV) (i n : Nat) : (seR v i n).1 3 = nI (n + 1) := by simp [seR, va_up, nI_1]
theorem senC_on {v : VV} {i n : Nat} (h : n < 20) : OnW (senC v i n) := by
  unfold senC
  split
  · exact ⟨n, by omega, by rw [rmvC_3]; rfl⟩
  · exact ⟨n + 1, by omega, seR_3 v i n⟩
theorem obeV_on {v : VV} {o : Bool × Nat × Int32 × Int32 × Int32} (h : OnW v) : OnW (obeV v o).2 := by
  unfold obeV
  split
  · unfold obeS
    split
    · rename_i z; exact senC_on z
    · exact h
  · unfold obeR
    split
    · exact h
    · exact pasC_on h _
theorem recK_le {k : Nat} (h : k ≤ 6) : recK k ≤ 6 := by
  unfold recK
  split <;> omega
theorem recV_on {k : Nat} {hs : Nat → VV} {w : VV} {n : Nat} (h : ∀ i, i < 6 → OnW (hs i)) (hw : OnW w) (hk : k ≤ 6) : ∀ i, i < 6 → OnW (recV k hs w n i) := by
  intro i hi
  unfold recV
  have h0 : ∀ j, j < 6 → OnW (rotN 0 6 hs j) := by
    intro j hj
    rw [rot_I]
    exact h _ (by unfold rotI; split; omega; split <;> omega)
  obtain ⟨m, hm, e⟩ := hw
  by_cases hk6 : k = 6
  · rw [if_pos hk6, if_pos hk6]
    by_cases hi5 : i = 5
    · rw [hi5, va_up_self]; exact ⟨m, hm, e⟩
    · rw [va_up_ne _ _ hi5]; exact h0 i hi
  · rw [if_neg hk6, if_neg hk6]
    by_cases hik : i = k
    · rw [hik, va_up_self]; exact ⟨m, hm, e⟩
    · rw [va_up_ne _ _ hik]; exact h i hi
theorem dec_eq (x : Int32) : x + Int32.ofInt (-1) = x - 1 := by
  rw [Int32.sub_eq_add_neg]
  rfl
theorem RXS.of {g : GG} {A : Nat → Prop} {M0 M : MM} {X : Nat} {π : Nat → Nat} {now : VV} {hs : Nat → VV} {k : Nat} {sl : Nat → VV} {sv f : Nat → Int32} {L : Nat} (h : RX g A M0 M X π now hs k sl sv f L) : RXS g A M M X (now, hs, k, sl, sv, f, L) := ⟨π, h.1, FrX.rf⟩
set_option maxHeartbeats 4000000 in
set_option maxRecDepth 100000 in
/-- put -/
theorem k_X7_put (l : Launch) (g : GG) (A : Nat → Prop) (M0 : MM) (X : Nat) (now : VV) (hs : Nat → VV) (k : Nat) (sl : Nat → VV) (sv f : Nat → Int32) (L : Nat) (hR : RXS g A M0 M0 X (now, hs, k, sl, sv, f, L)) (hI : CI (now, hs, k, sl, sv, f, L)) (x : Int64)  : Met l yX7_put (Uw yX7_put cX7_put 5 (Option.some ClassFile.FieldType.int)) (rmD 3) (PreM [.ref (X), .long (x)] g A M0) (PosI (fun r M1 => r = (oPut (now, hs, k, sl, sv, f, L) x).1 ∧ RXS g A M0 M1 X (oPut (now, hs, k, sl, sv, f, L) x).2) g A) 0 0 A := by
  refine mk_Met (own := RX7) rfl rfl (by decide) (Nat.le_of_ble_eq_true rfl) ?_
  intro p e s m below meth c ls aa Q haa hQ hx hb hr hlk hml hown hts hK hM hS hl hnm
  obtain ⟨M, hMM⟩ : ∃ M, M = M0 := ⟨_, rfl⟩
  rw [← hMM] at hM hR
  have ht : ∀ w ∈ lw_good, w.before _ s = true := fun w h => hts w (List.mem_cons_of_mem _ h)
  have hl : lv_has ls 5 [(0, .ref (X)), (1, .long (x))] := hl
  obtain ⟨π, hX⟩ := hR
  have hX : RX g A M0 M X π now hs k sl sv f L := ⟨hX.1, by rw [hMM]; exact FrX.rf⟩
  obtain ⟨⟨n, hn20, hn⟩, hk6, hhs, hsl, hL, hch⟩ := id hI
  have hN : onN now = n := onN_eq hn hn20
  have hL : L ≤ 60 := hL
  refine lv_lload_n hx hb dX7_put_0 rfl (lv_at hl 1 rfl) ?_
  refine m_callRSI (val := chC x) (As := [.long (x)]) (rest := []) ⟨hx, hb, hml, hown, ht⟩ (k_X7_charactersIn l g A M x) (cwS 1 ht (gUS uw_553 uw_554 uw_34 uw_555) rfl rfl rfl (by decide +kernel) ⟨by decide, by decide⟩) hK hM hS rfl hl.1 rfl (Nat.le_of_ble_eq_true rfl) dX7_put_1 ⟨by decide, by decide⟩ (fun H locs hM hS => ?_)
  refine lv_istore_n (lv' := [(3, .int (chC x)), (0, .ref (X)), (1, .long (x))]) hx hb dX7_put_4 rfl hl (by decide) rfl (fun ls hl => ?_)
  refine lv_iload_n hx hb dX7_put_5 rfl (lv_at hl 0 rfl) ?_
  refine lv_if_ne (tgt := 12) hx hb dX7_put_6 (by decide) (fun c_6 => ?_) (fun c_6 => ?_)
  · obtain ⟨rs, hTx⟩ := hX.txt
    obtain ⟨q, hq8, eq⟩ := chC_q x
    refine lv_aload_n hx hb dX7_put_12 rfl (lv_at hl 1 rfl) ?_
    refine m_get (ci := 7) (C := RX7) (T := TX7) (N := 7) hx hb ht ui_X7 hown hK hM hX.AX hX.obj rfl 5 (by decide) (ht _ uw_280) rfl dX7_put_13 ?_
    refine rt_getPl hx hb ht ui_X3 hown hK hM hTx (ht _ uw_238) dX7_put_16 ?_
    refine lv_iload_n hx hb dX7_put_19 rfl (lv_at hl 0 rfl) ?_
    refine lv_iadd hx hb dX7_put_20 ?_
    refine lv_bipush (v := 60) hx hb dX7_put_21 (by first | rfl | decide) ?_
    refine lv_icmp_le (tgt := 29) hx hb dX7_put_23 (by decide) (fun c_23 => ?_) (fun c_23 => ?_)
    · have hq60 : L + q ≤ 60 := by
        rw [eq, nI_add] at c_23
        exact nI_le_of (by decide) (by omega) c_23
      have hq1 : ¬ q = 0 := fun z => c_6 (by rw [eq, z]; rfl)
      rw [eq] at hl
      refine lv_iload_n hx hb dX7_put_29 rfl (lv_at hl 0 rfl) ?_
      refine lv_iconst (v := 1) hx hb dX7_put_30 (by first | rfl | decide) ?_
      refine lv_isub hx hb dX7_put_31 ?_
      refine lv_istore (lv' := [(4, .int ((nI q) - (1))), (3, .int (nI q)), (0, .ref (X)), (1, .long (x))]) hx hb dX7_put_32 hl (by decide) rfl (fun ls hl => ?_)
      have loop_34 : ∀ (z_34 : Nat) (r9 : Nat) (b : Nat) (rs : Nat → Int32) (M : MM) (H : Heap) (locs : List Loc) (ls : Array Slot), r9 < z_34 → b + r9 = q → HD g A M H → RX g A M0 M X π now hs k sl sv (putF x q f L b) (L + b) → RepT g A M (X + 285) (putF x q f L b) (nI (L + b)) rs → va_S A s.heap H locs → lv_has ls 5 [(4, .int (nI r9 - 1)), (3, .int (nI q)), (0, .ref (X)), (1, .long (x))] → W p l e (rmD 3) s m aa below meth c H locs 0 0 Q (F0 m 34 ls []) := by
        intro z_34
        induction z_34 with
        | zero => intro r9 b rs M H locs ls hz hb9; exact absurd hz (Nat.not_lt_zero _)
        | succ z_34 ih_34 =>
        intro r9 b rs M H locs ls hz hb9 hM hX hTx hS hl
        refine lv_iload hx hb dX7_put_34 (lv_at hl 0 rfl) ?_
        refine lv_if_lt (tgt := 59) hx hb dX7_put_36 (by decide) (fun c_36 => ?_) (fun c_36 => ?_)
        · have hr9 : r9 = 0 := by
            apply Classical.byContradiction
            intro z
            obtain ⟨r, rfl⟩ : ∃ r, r9 = r + 1 := ⟨r9 - 1, by omega⟩
            rw [nI_pred] at c_36
            exact nI_pos (by omega) c_36
          subst hr9
          have hbq : b = q := by omega
          subst hbq
          refine lv_aload_n hx hb dX7_put_59 rfl (lv_at hl 2 rfl) ?_
          refine m_get (ci := 7) (C := RX7) (T := TX7) (N := 7) hx hb ht ui_X7 hown hK hM hX.AX hX.obj rfl 5 (by decide) (ht _ uw_280) rfl dX7_put_60 ?_
          refine rt_getPl hx hb ht ui_X3 hown hK hM hTx (ht _ uw_238) dX7_put_63 ?_
          subst hQ
          exact m_zret hx hb hr (rfl) hlk hK hM hS dX7_put_66 (by unfold oPut; rw [if_neg c_6, if_neg (fun z => z c_23), eq, nI_clamp (by omega)]; exact ⟨rfl, π, hX⟩)
        · obtain ⟨r, rfl⟩ : ∃ r, r9 = r + 1 := ⟨r9 - 1, by have z : r9 ≠ 0 := fun z => c_36 (by rw [z]; decide); omega⟩
          rw [nI_pred] at hl
          refine lv_aload_n hx hb dX7_put_39 rfl (lv_at hl 2 rfl) ?_
          refine m_get (ci := 7) (C := RX7) (T := TX7) (N := 7) hx hb ht ui_X7 hown hK hM hX.AX hX.obj rfl 5 (by decide) (ht _ uw_280) rfl dX7_put_40 ?_
          refine lv_lload_n hx hb dX7_put_43 rfl (lv_at hl 3 rfl) ?_
          refine lv_iload hx hb dX7_put_44 (lv_at hl 0 rfl) ?_
          refine m_callRSI (val := codC x (nI r)) (As := [.long (x), .int (nI r)]) (rest := [.ref (X + 285)]) ⟨hx, hb, hml, hown, ht⟩ (k_X7_codeAt l g A M x (nI r)) (cwS 2 ht (gUS uw_556 uw_557 uw_34 uw_558) rfl rfl rfl (by decide +kernel) ⟨by decide, by decide⟩) hK hM hS rfl hl.1 rfl (Nat.le_of_ble_eq_true rfl) dX7_put_46 ⟨by decide, by decide⟩ (fun H locs hM hS => ?_)
          refine lv_i2c (v := ((codC x (nI r)).toUInt32 % 65536).toInt32) hx hb dX7_put_49 rfl ?_
          refine m_callV (As := [.int (((codC x (nI r)).toUInt32 % 65536).toInt32)]) (rest := []) ⟨hx, hb, hml, hown, ht⟩ (k_X3_append l g A M (X + 285) (putF x q f L b) (L + b) rs hTx (by omega) (((codC x (nI r)).toUInt32 % 65536).toInt32) (by omega)) (cwV 1 ht (gU uw_559 uw_560 uw_561 uw_40 uw_562) rfl rfl rfl (by decide +kernel) ⟨by decide, by decide⟩) hK hM hS (m_recv hK hM hTx.1 hTx.2.2.2.1 rfl) rfl hl.1 rfl (Nat.le_of_ble_eq_true rfl) dX7_put_50 ⟨by decide, by decide⟩ (fun M H locs hp hM hS => ?_)
          obtain ⟨hT9, hF9⟩ := hp
          have hX := hX.setX hT9 hF9
          obtain ⟨rs, hTx⟩ := hX.txt
          refine lv_iinc (v := nI r - 1) (lv' := [(4, .int (nI r - 1)), (3, .int (nI q)), (0, .ref (X)), (1, .long (x))]) hx hb dX7_put_53 hl (k := 0) rfl (dec_eq _) (by decide) rfl (fun ls hl => ?_)
          refine lv_goto (tgt := 34) hx hb dX7_put_56 (by decide) ?_
          have hX1 : RX g A M0 M X π now hs k sl sv (putF x q f L (b + 1)) (L + (b + 1)) := by rw [putF_s (show r = q - 1 - b by omega)]; exact hX
          obtain ⟨rs, hTx1⟩ := hX1.txt
          exact ih_34 r (b + 1) _ _ _ _ _ (by omega) (by omega) hM hX1 hTx1 hS (lv_sub hl [0, 1, 2, 3] rfl)
      exact loop_34 _ q 0 rs _ _ _ _ (Nat.lt_succ_self _) (by omega) hM hX hTx hS (lv_sub hl [0, 1, 2, 3] rfl)
    · refine lv_ldc (v := (-1000004)) hx hb hown (ht _ uw_355) dX7_put_26 ?_
      subst hQ
      exact m_zret hx hb hr (rfl) hlk hK hM hS dX7_put_28 (by unfold oPut; rw [if_neg c_6, if_pos c_23]; exact ⟨rfl, π, hX⟩)
  · refine lv_ldc (v := (-1000002)) hx hb hown (ht _ uw_340) dX7_put_9 ?_
    subst hQ
    exact m_zret hx hb hr (rfl) hlk hK hM hS dX7_put_11 (by unfold oPut; rw [if_pos c_6]; exact ⟨rfl, π, hX⟩)

set_option maxHeartbeats 4000000 in
set_option maxRecDepth 100000 in
/-- obeyOrder -/
theorem k_X7_obey_s (l : Launch) (g : GG) (A : Nat → Prop) (M0 : MM) (X : Nat) (now : VV) (hs : Nat → VV) (k : Nat) (sl : Nat → VV) (sv f : Nat → Int32) (L : Nat) (hR : RXS g A M0 M0 X (now, hs, k, sl, sv, f, L)) (hI : CI (now, hs, k, sl, sv, f, L)) (rs : Nat → Int32) (hT0 : RepT g A M0 (X + 285) f (nI L) rs) (hk1 : rs 1 = 115) (i : Nat) (hi : i < 6) (hg : rs 4 = nI i)  : Met l yX7_obeyOrder (Uw yX7_obeyOrder cX7_obeyOrder 1 (Option.some ClassFile.FieldType.boolean)) (rmD 4) (PreM [.ref (X)] g A M0) (PosI (fun r M1 => r = (obeS now i).1 ∧ (∃ π1, RX g A M0 M1 X π1 (obeS now i).2 hs k sl sv f L) ∧ RepT g A M1 (X + 285) f (nI L) rs) g A) 0 0 A := by
  refine mk_Met (own := RX7) rfl rfl (by decide) (Nat.le_of_ble_eq_true rfl) ?_
  intro p e s m below meth c ls aa Q haa hQ hx hb hr hlk hml hown hts hK hM hS hl hnm
  obtain ⟨M, hMM⟩ : ∃ M, M = M0 := ⟨_, rfl⟩
  rw [← hMM] at hM hR
  have ht : ∀ w ∈ lw_good, w.before _ s = true := fun w h => hts w (List.mem_cons_of_mem _ h)
  have hl : lv_has ls 1 [(0, .ref (X))] := hl
  obtain ⟨π, hX⟩ := hR
  have hX : RX g A M0 M X π now hs k sl sv f L := ⟨hX.1, by rw [hMM]; exact FrX.rf⟩
  obtain ⟨⟨n, hn20, hn⟩, hk6, hhs, hsl, hL, hch⟩ := id hI
  have hN : onN now = n := onN_eq hn hn20
  have hTx : RepT g A M (X + 285) f (nI L) rs := by rw [hMM]; exact hT0
  refine lv_aload_n hx hb dX7_obeyOrder_0 rfl (lv_at hl 0 rfl) ?_
  refine m_get (ci := 7) (C := RX7) (T := TX7) (N := 7) hx hb ht ui_X7 hown hK hM hX.AX hX.obj rfl 6 (by decide) (ht _ uw_281) rfl dX7_obeyOrder_1 ?_
  refine rt_getD hx hb ht ui_X2 hown hK hM hTx 1 (by decide) (ht _ uw_255) dX7_obeyOrder_4 ?_
  refine lv_bipush (v := 115) hx hb dX7_obeyOrder_7 (by first | rfl | decide) ?_
  refine lv_icmp_ne (tgt := 35) hx hb dX7_obeyOrder_9 (by decide) (fun c_9 => absurd (hk1) c_9) (fun c_9 => ?_)
  refine lv_aload_n hx hb dX7_obeyOrder_12 rfl (lv_at hl 0 rfl) ?_
  by_cases hlt : n < 20
  · refine m_get (ci := 7) (C := RX7) (T := TX7) (N := 7) hx hb ht ui_X7 hown hK hM hX.AX hX.obj rfl 0 (by decide) (ht _ uw_275) rfl dX7_obeyOrder_13 ?_
    refine lv_aload_n hx hb dX7_obeyOrder_16 rfl (lv_at hl 0 rfl) ?_
    refine m_get (ci := 7) (C := RX7) (T := TX7) (N := 7) hx hb ht ui_X7 hown hK hM hX.AX hX.obj rfl 6 (by decide) (ht _ uw_281) rfl dX7_obeyOrder_17 ?_
    refine rt_getD hx hb ht ui_X2 hown hK hM hTx 4 (by decide) (ht _ uw_261) dX7_obeyOrder_20 ?_
    refine m_callI (As := [.int (rs 4)]) (rest := []) ⟨hx, hb, hml, hown, ht⟩ ((by have z := k_X6_sendRunner l g A M (X + 1) π now i hX.nowV n hn hn20 hi; rw [← hg] at z; exact z)) (cwV 1 ht (gU uw_404 uw_405 uw_406 uw_35 uw_407) rfl rfl rfl (by decide +kernel) ⟨by decide, by decide⟩) hK hM hS (m_recv hK hM hX.nowV.AW hX.nowV.W rfl) rfl hl.1 rfl (Nat.le_of_ble_eq_true rfl) dX7_obeyOrder_23 ⟨by decide, by decide⟩ (fun r9 M H locs hp hM hS => ?_)
    obtain ⟨e9, ⟨π, hV9⟩, hF9⟩ := hp.1 hlt
    have hX := hX.setN hV9 hF9
    have hTx := hTx.agr (M1 := M) (fun q h1 h2 => hF9 q (by omega))
    refine lv_if_lt (tgt := 33) hx hb dX7_obeyOrder_26 (by decide) (fun c_26 => ?_) (fun c_26 => ?_)
    · refine lv_iconst (v := 0) hx hb dX7_obeyOrder_33 (by first | rfl | decide) ?_
      subst hQ
      exact m_zret hx hb hr (rfl) hlk hK hM hS dX7_obeyOrder_34 (by rw [obeS_a hN hlt]; exact ⟨by first | (rw [← e9]; exact (if_pos c_26).symm) | (rw [← e9]; exact (if_neg c_26).symm), ⟨π, hX⟩, hTx⟩)
    · refine lv_iconst (v := 1) hx hb dX7_obeyOrder_29 (by first | rfl | decide) ?_
      refine lv_goto (tgt := 34) hx hb dX7_obeyOrder_30 (by decide) ?_
      subst hQ
      exact m_zret hx hb hr (rfl) hlk hK hM hS dX7_obeyOrder_34 (by rw [obeS_a hN hlt]; exact ⟨by first | (rw [← e9]; exact (if_pos c_26).symm) | (rw [← e9]; exact (if_neg c_26).symm), ⟨π, hX⟩, hTx⟩)
  · refine m_get (ci := 7) (C := RX7) (T := TX7) (N := 7) hx hb ht ui_X7 hown hK hM hX.AX hX.obj rfl 0 (by decide) (ht _ uw_275) rfl dX7_obeyOrder_13 ?_
    refine lv_aload_n hx hb dX7_obeyOrder_16 rfl (lv_at hl 0 rfl) ?_
    refine m_get (ci := 7) (C := RX7) (T := TX7) (N := 7) hx hb ht ui_X7 hown hK hM hX.AX hX.obj rfl 6 (by decide) (ht _ uw_281) rfl dX7_obeyOrder_17 ?_
    refine rt_getD hx hb ht ui_X2 hown hK hM hTx 4 (by decide) (ht _ uw_261) dX7_obeyOrder_20 ?_
    refine m_callI (As := [.int (rs 4)]) (rest := []) ⟨hx, hb, hml, hown, ht⟩ ((by have z := k_X6_sendRunner l g A M (X + 1) π now i hX.nowV n hn hn20 hi; rw [← hg] at z; exact z)) (cwV 1 ht (gU uw_404 uw_405 uw_406 uw_35 uw_407) rfl rfl rfl (by decide +kernel) ⟨by decide, by decide⟩) hK hM hS (m_recv hK hM hX.nowV.AW hX.nowV.W rfl) rfl hl.1 rfl (Nat.le_of_ble_eq_true rfl) dX7_obeyOrder_23 ⟨by decide, by decide⟩ (fun r9 M H locs hp hM hS => ?_)
    obtain ⟨e9, e8⟩ := hp.2 hlt
    rw [e8] at hM
    refine lv_if_lt (tgt := 33) hx hb dX7_obeyOrder_26 (by decide) (fun c_26 => ?_) (fun c_26 => ?_)
    · refine lv_iconst (v := 0) hx hb dX7_obeyOrder_33 (by first | rfl | decide) ?_
      subst hQ
      exact m_zret hx hb hr (rfl) hlk hK hM hS dX7_obeyOrder_34 (by rw [obeS_b hN hlt]; exact ⟨rfl, ⟨π, hX⟩, hTx⟩)
    · refine lv_iconst (v := 1) hx hb dX7_obeyOrder_29 (by first | rfl | decide) ?_
      refine lv_goto (tgt := 34) hx hb dX7_obeyOrder_30 (by decide) ?_
      subst hQ
      exact m_zret hx hb hr (rfl) hlk hK hM hS dX7_obeyOrder_34 (absurd (show (-1000004 : Int32) < 0 by decide) (by rw [← e9]; exact c_26))

set_option maxHeartbeats 4000000 in
set_option maxRecDepth 100000 in
/-- obeyOrder -/
theorem k_X7_obey_r (l : Launch) (g : GG) (A : Nat → Prop) (M0 : MM) (X : Nat) (now : VV) (hs : Nat → VV) (k : Nat) (sl : Nat → VV) (sv f : Nat → Int32) (L : Nat) (hR : RXS g A M0 M0 X (now, hs, k, sl, sv, f, L)) (hI : CI (now, hs, k, sl, sv, f, L)) (rs : Nat → Int32) (hT0 : RepT g A M0 (X + 285) f (nI L) rs) (hk1 : rs 1 = 114) (q : Nat) (hq : q ≤ 24) (hg : rs 3 = nI q)  : Met l yX7_obeyOrder (Uw yX7_obeyOrder cX7_obeyOrder 1 (Option.some ClassFile.FieldType.boolean)) (rmD 5) (PreM [.ref (X)] g A M0) (PosI (fun r M1 => r = (obeR now (rs 2) (rs 3)).1 ∧ (∃ π1, RX g A M0 M1 X π1 (obeR now (rs 2) (rs 3)).2 hs k sl sv f L) ∧ RepT g A M1 (X + 285) f (nI L) rs) g A) 0 0 A := by
  refine mk_Met (own := RX7) rfl rfl (by decide) (Nat.le_of_ble_eq_true rfl) ?_
  intro p e s m below meth c ls aa Q haa hQ hx hb hr hlk hml hown hts hK hM hS hl hnm
  obtain ⟨M, hMM⟩ : ∃ M, M = M0 := ⟨_, rfl⟩
  rw [← hMM] at hM hR
  have ht : ∀ w ∈ lw_good, w.before _ s = true := fun w h => hts w (List.mem_cons_of_mem _ h)
  have hl : lv_has ls 1 [(0, .ref (X))] := hl
  obtain ⟨π, hX⟩ := hR
  have hX : RX g A M0 M X π now hs k sl sv f L := ⟨hX.1, by rw [hMM]; exact FrX.rf⟩
  obtain ⟨⟨n, hn20, hn⟩, hk6, hhs, hsl, hL, hch⟩ := id hI
  have hN : onN now = n := onN_eq hn hn20
  have hTx : RepT g A M (X + 285) f (nI L) rs := by rw [hMM]; exact hT0
  refine lv_aload_n hx hb dX7_obeyOrder_0 rfl (lv_at hl 0 rfl) ?_
  refine m_get (ci := 7) (C := RX7) (T := TX7) (N := 7) hx hb ht ui_X7 hown hK hM hX.AX hX.obj rfl 6 (by decide) (ht _ uw_281) rfl dX7_obeyOrder_1 ?_
  refine rt_getD hx hb ht ui_X2 hown hK hM hTx 1 (by decide) (ht _ uw_255) dX7_obeyOrder_4 ?_
  refine lv_bipush (v := 115) hx hb dX7_obeyOrder_7 (by first | rfl | decide) ?_
  refine lv_icmp_ne (tgt := 35) hx hb dX7_obeyOrder_9 (by decide) (fun c_9 => ?_) (fun c_9 => absurd c_9 (by rw [hk1]; decide))
  refine lv_aload_n hx hb dX7_obeyOrder_35 rfl (lv_at hl 0 rfl) ?_
  refine m_get (ci := 7) (C := RX7) (T := TX7) (N := 7) hx hb ht ui_X7 hown hK hM hX.AX hX.obj rfl 0 (by decide) (ht _ uw_275) rfl dX7_obeyOrder_36 ?_
  refine lv_aload_n hx hb dX7_obeyOrder_39 rfl (lv_at hl 0 rfl) ?_
  refine m_get (ci := 7) (C := RX7) (T := TX7) (N := 7) hx hb ht ui_X7 hown hK hM hX.AX hX.obj rfl 6 (by decide) (ht _ uw_281) rfl dX7_obeyOrder_40 ?_
  refine rt_getD hx hb ht ui_X2 hown hK hM hTx 3 (by decide) (ht _ uw_259) dX7_obeyOrder_43 ?_
  refine m_callRI (val := if now.1 2 + rs 3 ≤ 9999 then 1 else 0) (As := [.int (rs 3)]) (rest := []) ⟨hx, hb, hml, hown, ht⟩ (k_X6_hasTimeFor l g A M (X + 1) π now (rs 3) hX.nowV) (cwV 1 ht (gU uw_351 uw_352 uw_353 uw_35 uw_354) rfl rfl rfl (by decide +kernel) ⟨by decide, by decide⟩) hK hM hS (m_recv hK hM hX.nowV.AW hX.nowV.W rfl) rfl hl.1 rfl (Nat.le_of_ble_eq_true rfl) dX7_obeyOrder_46 ⟨by decide, by decide⟩ (fun H locs hM hS => ?_)
  refine lv_if_ne (tgt := 54) hx hb dX7_obeyOrder_49 (by decide) (fun c_49 => ?_) (fun c_49 => ?_)
  · refine lv_aload_n hx hb dX7_obeyOrder_54 rfl (lv_at hl 0 rfl) ?_
    refine m_get (ci := 7) (C := RX7) (T := TX7) (N := 7) hx hb ht ui_X7 hown hK hM hX.AX hX.obj rfl 0 (by decide) (ht _ uw_275) rfl dX7_obeyOrder_55 ?_
    refine lv_aload_n hx hb dX7_obeyOrder_58 rfl (lv_at hl 0 rfl) ?_
    refine m_get (ci := 7) (C := RX7) (T := TX7) (N := 7) hx hb ht ui_X7 hown hK hM hX.AX hX.obj rfl 6 (by decide) (ht _ uw_281) rfl dX7_obeyOrder_59 ?_
    refine rt_getD hx hb ht ui_X2 hown hK hM hTx 2 (by decide) (ht _ uw_257) dX7_obeyOrder_62 ?_
    refine lv_aload_n hx hb dX7_obeyOrder_65 rfl (lv_at hl 0 rfl) ?_
    refine m_get (ci := 7) (C := RX7) (T := TX7) (N := 7) hx hb ht ui_X7 hown hK hM hX.AX hX.obj rfl 6 (by decide) (ht _ uw_281) rfl dX7_obeyOrder_66 ?_
    refine rt_getD hx hb ht ui_X2 hown hK hM hTx 3 (by decide) (ht _ uw_259) dX7_obeyOrder_69 ?_
    refine m_callI (As := [.int (rs 2), .int (rs 3)]) (rest := []) ⟨hx, hb, hml, hown, ht⟩ ((by have z := k_X6_passHours l g A M (X + 1) π now (rs 2) q hX.nowV hI.1 (by omega); rw [← hg] at z; exact z)) (cwV 2 ht (gU uw_356 uw_357 uw_358 uw_35 uw_359) rfl rfl rfl (by decide +kernel) ⟨by decide, by decide⟩) hK hM hS (m_recv hK hM hX.nowV.AW hX.nowV.W rfl) rfl hl.1 rfl (Nat.le_of_ble_eq_true rfl) dX7_obeyOrder_72 ⟨by decide, by decide⟩ (fun r9 M H locs hp hM hS => ?_)
    obtain ⟨-, ⟨π, hV9⟩, hF9⟩ := hp
    have hX := hX.setN hV9 hF9
    have hTx := hTx.agr (M1 := M) (fun q h1 h2 => hF9 q (by omega))
    refine lv_pop hx hb dX7_obeyOrder_75 rfl ?_
    refine lv_iconst (v := 1) hx hb dX7_obeyOrder_76 (by first | rfl | decide) ?_
    subst hQ
    exact m_zret hx hb hr (rfl) hlk hK hM hS dX7_obeyOrder_77 (by unfold obeR; rw [if_neg (fun z => c_49 (ite10.mpr z)), hg, nI_clamp (by omega)]; exact ⟨rfl, ⟨π, hX⟩, hTx⟩)
  · refine lv_iconst (v := 0) hx hb dX7_obeyOrder_52 (by first | rfl | decide) ?_
    subst hQ
    exact m_zret hx hb hr (rfl) hlk hK hM hS dX7_obeyOrder_53 (by unfold obeR; rw [if_pos (ite10.mp c_49)]; exact ⟨rfl, ⟨π, hX⟩, hTx⟩)

set_option maxHeartbeats 4000000 in
set_option maxRecDepth 100000 in
/-- run -/
theorem k_X7_run (l : Launch) (g : GG) (A : Nat → Prop) (M0 : MM) (X : Nat) (now : VV) (hs : Nat → VV) (k : Nat) (sl : Nat → VV) (sv f : Nat → Int32) (L : Nat) (hR : RXS g A M0 M0 X (now, hs, k, sl, sv, f, L)) (hI : CI (now, hs, k, sl, sv, f, L))  : Met l yX7_run (Uw yX7_run cX7_run 3 (Option.some ClassFile.FieldType.int)) (rmD 7) (PreM [.ref (X)] g A M0) (PosI (fun r M1 => r = (oRun (now, hs, k, sl, sv, f, L)).1 ∧ RXS g A M0 M1 X (oRun (now, hs, k, sl, sv, f, L)).2) g A) 0 0 A := by
  refine mk_Met (own := RX7) rfl rfl (by decide) (Nat.le_of_ble_eq_true rfl) ?_
  intro p e s m below meth c ls aa Q haa hQ hx hb hr hlk hml hown hts hK hM hS hl hnm
  obtain ⟨M, hMM⟩ : ∃ M, M = M0 := ⟨_, rfl⟩
  rw [← hMM] at hM hR
  have ht : ∀ w ∈ lw_good, w.before _ s = true := fun w h => hts w (List.mem_cons_of_mem _ h)
  have hl : lv_has ls 3 [(0, .ref (X))] := hl
  obtain ⟨π, hX⟩ := hR
  have hX : RX g A M0 M X π now hs k sl sv f L := ⟨hX.1, by rw [hMM]; exact FrX.rf⟩
  obtain ⟨⟨n, hn20, hn⟩, hk6, hhs, hsl, hL, hch⟩ := id hI
  have hN : onN now = n := onN_eq hn hn20
  have hL : L ≤ 60 := hL
  have hk6 : k ≤ 6 := hk6
  obtain ⟨rs, hTx⟩ := hX.txt
  refine lv_aload_n hx hb dX7_run_0 rfl (lv_at hl 0 rfl) ?_
  refine m_get (ci := 7) (C := RX7) (T := TX7) (N := 7) hx hb ht ui_X7 hown hK hM hX.AX hX.obj rfl 6 (by decide) (ht _ uw_281) rfl dX7_run_1 ?_
  refine m_callI (As := []) (rest := []) ⟨hx, hb, hml, hown, ht⟩ (k_X2_findFault l g A M (X + 285) f L rs hTx hL hch) (cwV 0 ht (gU uw_433 uw_434 uw_435 uw_41 uw_436) rfl rfl rfl (by decide +kernel) ⟨by decide, by decide⟩) hK hM hS (m_recv hK hM hTx.2.2.1 hTx.2.2.2.2.2 rfl) rfl hl.1 rfl (Nat.le_of_ble_eq_true rfl) dX7_run_4 ⟨by decide, by decide⟩ (fun r9 M H locs hp hM hS => ?_)
  obtain ⟨e9, rs9, hT9, hF9⟩ := hp
  have hX := hX.setX hT9 hF9
  have hTx := hT9
  refine lv_ldc (v := (-1000006)) hx hb hown (ht _ uw_471) dX7_run_7 ?_
  refine lv_icmp_eq (tgt := 15) hx hb dX7_run_9 (by decide) (fun c_9 => ?_) (fun c_9 => ?_)
  · have hfau : fauC f L 60 0 = none := fau_none (e9.symm.trans c_9)
    refine lv_aload_n hx hb dX7_run_15 rfl (lv_at hl 0 rfl) ?_
    refine m_get (ci := 7) (C := RX7) (T := TX7) (N := 7) hx hb ht ui_X7 hown hK hM hX.AX hX.obj rfl 2 (by decide) (ht _ uw_277) rfl dX7_run_16 ?_
    refine lv_aload_n hx hb dX7_run_19 rfl (lv_at hl 0 rfl) ?_
    refine m_get (ci := 7) (C := RX7) (T := TX7) (N := 7) hx hb ht ui_X7 hown hK hM hX.AX hX.obj rfl 0 (by decide) (ht _ uw_275) rfl dX7_run_20 ?_
    obtain ⟨ρ8, πs8, hH8⟩ := hX.his
    refine m_callV (As := [.ref (X + 1)]) (rest := []) ⟨hx, hb, hml, hown, ht⟩ (k_X1_record l g A M (X + 71) ρ8 πs8 hs (nI k) hH8 (X + 1) π now n hX.nowV (by omega) k rfl hk6 hn hn20) (cwV 1 ht (gU uw_304 uw_305 uw_306 uw_39 uw_307) rfl rfl rfl (by decide +kernel) ⟨by decide, by decide⟩) hK hM hS (m_recv hK hM hH8.1 hH8.2.2.2.1 rfl) rfl hl.1 rfl (Nat.le_of_ble_eq_true rfl) dX7_run_23 ⟨by decide, by decide⟩ (fun M H locs hp hM hS => ?_)
    obtain ⟨⟨ρ7, πs7, hH7⟩, hF7⟩ := hp
    have hX := hX.setH hH7 hF7
    refine lv_aload_n hx hb dX7_run_26 rfl (lv_at hl 0 rfl) ?_
    obtain ⟨rs7, hTx⟩ := hX.txt
    obtain ⟨w0, hw0⟩ : ∃ w0, w0 = runL f L 60 0 0 now := ⟨_, rfl⟩
    refine m_get (ci := 7) (C := RX7) (T := TX7) (N := 7) hx hb ht ui_X7 hown hK hM hX.AX hX.obj rfl 6 (by decide) (ht _ uw_281) rfl dX7_run_27 ?_
    refine m_callV (As := []) (rest := []) ⟨hx, hb, hml, hown, ht⟩ (k_X2_goToStart l g A M (X + 285) f L rs7 hTx hL) (cwV 0 ht (gU uw_473 uw_438 uw_439 uw_41 uw_440) rfl rfl rfl (by decide +kernel) ⟨by decide, by decide⟩) hK hM hS (m_recv hK hM hTx.2.2.1 hTx.2.2.2.2.2 rfl) rfl hl.1 rfl (Nat.le_of_ble_eq_true rfl) dX7_run_30 ⟨by decide, by decide⟩ (fun M H locs hp hM hS => ?_)
    obtain ⟨hT9, hF9⟩ := hp
    have hX := hX.setX hT9 hF9
    have hTx := hT9
    refine lv_iconst (v := 0) hx hb dX7_run_33 (by first | rfl | decide) ?_
    refine lv_istore_n (lv' := [(1, .int (0)), (0, .ref (X))]) hx hb dX7_run_34 rfl hl (by decide) rfl (fun ls hl => ?_)
    refine lv_iconst (v := 0) hx hb dX7_run_35 (by first | rfl | decide) ?_
    refine lv_istore_n (lv' := [(2, .int (0)), (1, .int (0)), (0, .ref (X))]) hx hb dX7_run_36 rfl hl (by decide) rfl (fun ls hl => ?_)
    have loop_37 : ∀ (z_37 : Nat) (o : Nat) (q : Nat) (d : Int32) (v9 : VV) (π : Nat → Nat) (rs : Nat → Int32) (M : MM) (H : Heap) (locs : List Loc) (ls : Array Slot), 60 - o < z_37 → o ≤ 60 → q ≤ 7 * o → rs 0 = nI q → OnW v9 → runL f L (60 - o) q d v9 = w0 → HD g A M H → RX g A M0 M X π v9 (recV k hs now n) (recK k) sl sv f L → RepT g A M (X + 285) f (nI L) rs → va_S A s.heap H locs → lv_has ls 3 [(2, .int (nI o)), (1, .int (d)), (0, .ref (X))] → W p l e (rmD 7) s m aa below meth c H locs 0 0 Q (F0 m 37 ls []) := by
      intro z_37
      induction z_37 with
      | zero => intro o q d v9 π rs M H locs ls hz ho hq hat hon9 hw; exact absurd hz (Nat.not_lt_zero _)
      | succ z_37 ih_37 =>
      intro o q d v9 π rs M H locs ls hz ho hq hat hon9 hw hM hX hTx hS hl
      refine lv_iload_n hx hb dX7_run_37 rfl (lv_at hl 0 rfl) ?_
      refine lv_bipush (v := 60) hx hb dX7_run_38 (by first | rfl | decide) ?_
      refine lv_icmp_ge (tgt := 76) hx hb dX7_run_40 (by decide) (fun c_40 => ?_) (fun c_40 => ?_)
      · refine lv_aload_n hx hb dX7_run_76 rfl (lv_at hl 2 rfl) ?_
        refine m_get (ci := 7) (C := RX7) (T := TX7) (N := 7) hx hb ht ui_X7 hown hK hM hX.AX hX.obj rfl 5 (by decide) (ht _ uw_280) rfl dX7_run_77 ?_
        refine lv_iconst (v := 0) hx hb dX7_run_80 (by first | rfl | decide) ?_
        refine rt_putPl hx hb ht ui_X3 hown hK hM hS hTx FrT.rf (ht _ uw_238) dX7_run_81 (fun M H locs hM hT9 hF9 hS => ?_)
        have hX := hX.setX (L1 := 0) hT9 hF9
        refine lv_iload_n hx hb dX7_run_84 rfl (lv_at hl 1 rfl) ?_
        subst hQ
        exact m_zret hx hb hr (rfl) hlk hK hM hS dX7_run_85 (by
            have e5 : w0 = (d, v9) := by
              rw [← hw]
              first
                | exact run_0 (nI_le_of (by omega) (by decide) c_40) ho
                | exact run_1 (nI_lt_of (by omega) (by decide) c_40) (by rw [e_r1] at c_50; exact ite_no c_50)
            rw [oRun_y hfau (show runL f L 60 0 0 now = (d, v9) from hw0.symm.trans e5)]
            rw [← hN] at hX
            exact ⟨rfl, π, hX⟩)
      · have ho60 : o < 60 := nI_lt_of (by omega) (by decide) c_40
        refine lv_aload_n hx hb dX7_run_43 rfl (lv_at hl 2 rfl) ?_
        refine m_get (ci := 7) (C := RX7) (T := TX7) (N := 7) hx hb ht ui_X7 hown hK hM hX.AX hX.obj rfl 6 (by decide) (ht _ uw_281) rfl dX7_run_44 ?_
        refine m_callI (As := []) (rest := []) ⟨hx, hb, hml, hown, ht⟩ (k_X2_readOrder l g A M (X + 285) f L rs hTx hL hch q (by omega) hat (by omega)) (cwV 0 ht (gU uw_474 uw_442 uw_443 uw_41 uw_444) rfl rfl rfl (by decide +kernel) ⟨by decide, by decide⟩) hK hM hS (m_recv hK hM hTx.2.2.1 hTx.2.2.2.2.2 rfl) rfl hl.1 rfl (Nat.le_of_ble_eq_true rfl) dX7_run_47 ⟨by decide, by decide⟩ (fun r9 M H locs hp hM hS => ?_)
        obtain ⟨e_r1, rs1, hT9, hF9, k0, k9⟩ := hp
        have hX := hX.setX hT9 hF9
        have hTx := hT9
        refine lv_if_eq (tgt := 76) hx hb dX7_run_50 (by decide) (fun c_50 => ?_) (fun c_50 => ?_)
        · refine lv_aload_n hx hb dX7_run_76 rfl (lv_at hl 2 rfl) ?_
          refine m_get (ci := 7) (C := RX7) (T := TX7) (N := 7) hx hb ht ui_X7 hown hK hM hX.AX hX.obj rfl 5 (by decide) (ht _ uw_280) rfl dX7_run_77 ?_
          refine lv_iconst (v := 0) hx hb dX7_run_80 (by first | rfl | decide) ?_
          refine rt_putPl hx hb ht ui_X3 hown hK hM hS hTx FrT.rf (ht _ uw_238) dX7_run_81 (fun M H locs hM hT9 hF9 hS => ?_)
          have hX := hX.setX (L1 := 0) hT9 hF9
          refine lv_iload_n hx hb dX7_run_84 rfl (lv_at hl 1 rfl) ?_
          subst hQ
          exact m_zret hx hb hr (rfl) hlk hK hM hS dX7_run_85 (by
              have e5 : w0 = (d, v9) := by
                rw [← hw]
                first
                  | exact run_0 (nI_le_of (by omega) (by decide) c_40) ho
                  | exact run_1 (nI_lt_of (by omega) (by decide) c_40) (by rw [e_r1] at c_50; exact ite_no c_50)
              rw [oRun_y hfau (show runL f L 60 0 0 now = (d, v9) from hw0.symm.trans e5)]
              rw [← hN] at hX
              exact ⟨rfl, π, hX⟩)
        · have ok : (ordC f L q).1 = true := by rw [e_r1] at c_50; exact ite_ok c_50
          have hq5 := ordC_q f L q
          obtain ⟨k1, k2, k4⟩ := k9 ok
          have hI9 : CI (v9, recV k hs now n, recK k, sl, sv, f, L) := ⟨hon9, recK_le hk6, recV_on hhs ⟨n, hn20, hn⟩ hk6, hsl, hL, hch⟩
          rcases ord_cases ok with ⟨ek, i, hi, ei⟩ | ⟨ek, i, hi, ei⟩
          · have k3 := k4 ek
            refine lv_aload_n hx hb dX7_run_53 rfl (lv_at hl 2 rfl) ?_
            refine m_callI (As := []) (rest := []) ⟨hx, hb, hml, hown, ht⟩ (k_X7_obey_s l g A M X v9 (recV k hs now n) (recK k) sl sv f L (RXS.of hX) hI9 rs1 hTx (k1.trans ek) i hi (k3.trans ei)) (cwV 0 ht (gU uw_475 uw_477 uw_10 uw_34 uw_478) rfl rfl rfl (by decide +kernel) ⟨by decide, by decide⟩) hK hM hS (m_recv hK hM hX.AX hX.obj rfl) rfl hl.1 rfl (Nat.le_of_ble_eq_true rfl) dX7_run_54 ⟨by decide, by decide⟩ (fun r9 M H locs hp hM hS => ?_)
            obtain ⟨e9, ⟨π, hX9⟩, hTx⟩ := hp
            have hX : RX g A M0 M X π (obeV v9 (ordC f L q)).2 (recV k hs now n) (recK k) sl sv f L := ⟨by rw [obeV_s ek ei hi]; exact hX9.1, fun z1 z2 => (hX9.2 z1 z2).trans (hX.2 z1 z2)⟩
            have e57 : (obeV v9 (ordC f L q)).1 = r9 := by rw [obeV_s ek ei hi]; exact e9.symm
            refine lv_if_eq (tgt := 63) hx hb dX7_run_57 (by decide) (fun c_57 => ?_) (fun c_57 => ?_)
            · refine lv_aload_n hx hb dX7_run_63 rfl (lv_at hl 2 rfl) ?_
              refine m_get (ci := 7) (C := RX7) (T := TX7) (N := 7) hx hb ht ui_X7 hown hK hM hX.AX hX.obj rfl 6 (by decide) (ht _ uw_281) rfl dX7_run_64 ?_
              refine m_callV (As := []) (rest := []) ⟨hx, hb, hml, hown, ht⟩ (k_X2_passSeparator l g A M (X + 285) f L rs1 hTx hL) (cwV 0 ht (gU uw_479 uw_468 uw_469 uw_41 uw_470) rfl rfl rfl (by decide +kernel) ⟨by decide, by decide⟩) hK hM hS (m_recv hK hM hTx.2.2.1 hTx.2.2.2.2.2 rfl) rfl hl.1 rfl (Nat.le_of_ble_eq_true rfl) dX7_run_67 ⟨by decide, by decide⟩ (fun M H locs hp hM hS => ?_)
              obtain ⟨hT9, hF9⟩ := hp
              have hX := hX.setX hT9 hF9
              have hTx := hT9
              refine lv_iinc (v := nI (o + 1)) (lv' := [(2, .int (nI (o + 1))), (1, .int (d)), (0, .ref (X))]) hx hb dX7_run_70 hl (k := 0) rfl (nI_1 _) (by decide) rfl (fun ls hl => ?_)
              refine lv_goto (tgt := 37) hx hb dX7_run_73 (by decide) ?_
              exact ih_37 (o + 1) ((ordC f L q).2.1 + 1) d ((obeV v9 (ordC f L q)).2) π _ _ _ _ _ (by omega) (by omega) (by omega) (by show rs1 0 + 1 = _; rw [k0]; exact nI_1 _) (obeV_on hon9) (by rw [← hw]; exact run_n ho60 ok (by rw [e57]; exact c_57)) hM hX hTx hS (lv_sub hl [0, 1, 2] rfl)
            · refine lv_iinc (v := (d) + (1)) (lv' := [(1, .int ((d) + (1))), (2, .int (nI o)), (0, .ref (X))]) hx hb dX7_run_60 hl (k := 1) rfl (rfl) (by decide) rfl (fun ls hl => ?_)
              refine lv_aload_n hx hb dX7_run_63 rfl (lv_at hl 2 rfl) ?_
              refine m_get (ci := 7) (C := RX7) (T := TX7) (N := 7) hx hb ht ui_X7 hown hK hM hX.AX hX.obj rfl 6 (by decide) (ht _ uw_281) rfl dX7_run_64 ?_
              refine m_callV (As := []) (rest := []) ⟨hx, hb, hml, hown, ht⟩ (k_X2_passSeparator l g A M (X + 285) f L rs1 hTx hL) (cwV 0 ht (gU uw_479 uw_468 uw_469 uw_41 uw_470) rfl rfl rfl (by decide +kernel) ⟨by decide, by decide⟩) hK hM hS (m_recv hK hM hTx.2.2.1 hTx.2.2.2.2.2 rfl) rfl hl.1 rfl (Nat.le_of_ble_eq_true rfl) dX7_run_67 ⟨by decide, by decide⟩ (fun M H locs hp hM hS => ?_)
              obtain ⟨hT9, hF9⟩ := hp
              have hX := hX.setX hT9 hF9
              have hTx := hT9
              refine lv_iinc (v := nI (o + 1)) (lv' := [(2, .int (nI (o + 1))), (1, .int ((d) + (1))), (0, .ref (X))]) hx hb dX7_run_70 hl (k := 1) rfl (nI_1 _) (by decide) rfl (fun ls hl => ?_)
              refine lv_goto (tgt := 37) hx hb dX7_run_73 (by decide) ?_
              exact ih_37 (o + 1) ((ordC f L q).2.1 + 1) ((d) + (1)) ((obeV v9 (ordC f L q)).2) π _ _ _ _ _ (by omega) (by omega) (by omega) (by show rs1 0 + 1 = _; rw [k0]; exact nI_1 _) (obeV_on hon9) (by rw [← hw]; exact run_y ho60 ok (by rw [e57]; exact c_57)) hM hX hTx hS (lv_sub hl [0, 1, 2] rfl)
          · have k3 := k2 ek
            refine lv_aload_n hx hb dX7_run_53 rfl (lv_at hl 2 rfl) ?_
            refine m_callI (As := []) (rest := []) ⟨hx, hb, hml, hown, ht⟩ (k_X7_obey_r l g A M X v9 (recV k hs now n) (recK k) sl sv f L (RXS.of hX) hI9 rs1 hTx (k1.trans ek) i hi (k3.2.trans ei)) (cwV 0 ht (gU uw_475 uw_477 uw_10 uw_34 uw_478) rfl rfl rfl (by decide +kernel) ⟨by decide, by decide⟩) hK hM hS (m_recv hK hM hX.AX hX.obj rfl) rfl hl.1 rfl (Nat.le_of_ble_eq_true rfl) dX7_run_54 ⟨by decide, by decide⟩ (fun r9 M H locs hp hM hS => ?_)
            obtain ⟨e9, ⟨π, hX9⟩, hTx⟩ := hp
            have hX : RX g A M0 M X π (obeV v9 (ordC f L q)).2 (recV k hs now n) (recK k) sl sv f L := ⟨by rw [obeV_r ek, ← k3.1, ← k3.2]; exact hX9.1, fun z1 z2 => (hX9.2 z1 z2).trans (hX.2 z1 z2)⟩
            have e57 : (obeV v9 (ordC f L q)).1 = r9 := by rw [obeV_r ek, ← k3.1, ← k3.2]; exact e9.symm
            refine lv_if_eq (tgt := 63) hx hb dX7_run_57 (by decide) (fun c_57 => ?_) (fun c_57 => ?_)
            · refine lv_aload_n hx hb dX7_run_63 rfl (lv_at hl 2 rfl) ?_
              refine m_get (ci := 7) (C := RX7) (T := TX7) (N := 7) hx hb ht ui_X7 hown hK hM hX.AX hX.obj rfl 6 (by decide) (ht _ uw_281) rfl dX7_run_64 ?_
              refine m_callV (As := []) (rest := []) ⟨hx, hb, hml, hown, ht⟩ (k_X2_passSeparator l g A M (X + 285) f L rs1 hTx hL) (cwV 0 ht (gU uw_479 uw_468 uw_469 uw_41 uw_470) rfl rfl rfl (by decide +kernel) ⟨by decide, by decide⟩) hK hM hS (m_recv hK hM hTx.2.2.1 hTx.2.2.2.2.2 rfl) rfl hl.1 rfl (Nat.le_of_ble_eq_true rfl) dX7_run_67 ⟨by decide, by decide⟩ (fun M H locs hp hM hS => ?_)
              obtain ⟨hT9, hF9⟩ := hp
              have hX := hX.setX hT9 hF9
              have hTx := hT9
              refine lv_iinc (v := nI (o + 1)) (lv' := [(2, .int (nI (o + 1))), (1, .int (d)), (0, .ref (X))]) hx hb dX7_run_70 hl (k := 0) rfl (nI_1 _) (by decide) rfl (fun ls hl => ?_)
              refine lv_goto (tgt := 37) hx hb dX7_run_73 (by decide) ?_
              exact ih_37 (o + 1) ((ordC f L q).2.1 + 1) d ((obeV v9 (ordC f L q)).2) π _ _ _ _ _ (by omega) (by omega) (by omega) (by show rs1 0 + 1 = _; rw [k0]; exact nI_1 _) (obeV_on hon9) (by rw [← hw]; exact run_n ho60 ok (by rw [e57]; exact c_57)) hM hX hTx hS (lv_sub hl [0, 1, 2] rfl)
            · refine lv_iinc (v := (d) + (1)) (lv' := [(1, .int ((d) + (1))), (2, .int (nI o)), (0, .ref (X))]) hx hb dX7_run_60 hl (k := 1) rfl (rfl) (by decide) rfl (fun ls hl => ?_)
              refine lv_aload_n hx hb dX7_run_63 rfl (lv_at hl 2 rfl) ?_
              refine m_get (ci := 7) (C := RX7) (T := TX7) (N := 7) hx hb ht ui_X7 hown hK hM hX.AX hX.obj rfl 6 (by decide) (ht _ uw_281) rfl dX7_run_64 ?_
              refine m_callV (As := []) (rest := []) ⟨hx, hb, hml, hown, ht⟩ (k_X2_passSeparator l g A M (X + 285) f L rs1 hTx hL) (cwV 0 ht (gU uw_479 uw_468 uw_469 uw_41 uw_470) rfl rfl rfl (by decide +kernel) ⟨by decide, by decide⟩) hK hM hS (m_recv hK hM hTx.2.2.1 hTx.2.2.2.2.2 rfl) rfl hl.1 rfl (Nat.le_of_ble_eq_true rfl) dX7_run_67 ⟨by decide, by decide⟩ (fun M H locs hp hM hS => ?_)
              obtain ⟨hT9, hF9⟩ := hp
              have hX := hX.setX hT9 hF9
              have hTx := hT9
              refine lv_iinc (v := nI (o + 1)) (lv' := [(2, .int (nI (o + 1))), (1, .int ((d) + (1))), (0, .ref (X))]) hx hb dX7_run_70 hl (k := 1) rfl (nI_1 _) (by decide) rfl (fun ls hl => ?_)
              refine lv_goto (tgt := 37) hx hb dX7_run_73 (by decide) ?_
              exact ih_37 (o + 1) ((ordC f L q).2.1 + 1) ((d) + (1)) ((obeV v9 (ordC f L q)).2) π _ _ _ _ _ (by omega) (by omega) (by omega) (by show rs1 0 + 1 = _; rw [k0]; exact nI_1 _) (obeV_on hon9) (by rw [← hw]; exact run_y ho60 ok (by rw [e57]; exact c_57)) hM hX hTx hS (lv_sub hl [0, 1, 2] rfl)
    exact loop_37 _ 0 0 0 now π (va_up rs7 0 0) _ _ _ _ (Nat.lt_succ_self _) (by omega) (by omega) rfl hI.1 hw0.symm hM hX hTx hS (lv_sub hl [0, 1, 2] rfl)
  · refine lv_ldc (v := (-1000003)) hx hb hown (ht _ uw_472) dX7_run_12 ?_
    subst hQ
    exact m_zret hx hb hr (rfl) hlk hK hM hS dX7_run_14 (by rw [oRun_b (fun z => c_9 (e9.trans (by rw [z])))]; exact ⟨rfl, π, hX⟩)
