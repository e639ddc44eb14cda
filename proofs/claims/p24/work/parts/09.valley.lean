theorem gxn_in {n i : Nat} (hi : i < n) (hn : n < 2 ^ 31) : gxn n (nI i) = some i := by
  unfold gxn
  rw [if_neg (fun q => vp_in_nI hi hn q), nI_clamp (by omega)]
theorem va_upup {α : Type} (f : Nat → α) (k : Nat) (x y : α) : va_up (va_up f k x) k y = va_up f k y := by
  funext j
  unfold va_up
  by_cases h : j = k
  · simp [h]
  · simp [h]
theorem va_upself {α : Type} {f : Nat → α} {k : Nat} {x : α} (h : f k = x) (j : Nat) : va_up f k x j = f j := by
  unfold va_up
  by_cases hj : j = k
  · rw [if_pos hj, hj, h]
  · rw [if_neg hj]
theorem mov_c {v : VV} {k : Nat} (c : ¬ (vR v k 4 (v.2.2 k 4 - nI 1)).2.2 k 4 ≤ 0) : ¬ v.2.2 k 4 - 1 ≤ 0 := by
  simpa [up2, va_up, show nI 1 = (1 : Int32) from rfl] using c
theorem mov_d {v : VV} {k : Nat} (c : (vR v k 4 (v.2.2 k 4 - nI 1)).2.2 k 4 ≤ 0) : v.2.2 k 4 - 1 ≤ 0 := by
  simpa [up2, va_up, show nI 1 = (1 : Int32) from rfl] using c
theorem sen_n {v : VV} {i n : Nat} (se3 : (seR v i n).1 3 = nI (n + 1)) : (heaC (seR v i n) n).1 3 - nI 1 = nI n := by
  rw [heaC_1, se3]
  exact pk_sub (show 1 ≤ n + 1 by omega)
theorem sen_a {g : GG} {A : Nat → Prop} {M0 M : MM} {b : Nat} {π : Nat → Nat} {v : VV} {i n : Nat} (c : (seR v i n).2.2 n 4 = 0) (hR : RepV g A M b π (rmvC (heaC (seR v i n) n) n (n + 1))) (hF : FrV b M0 M) : whC (rmvC (heaC (seR v i n) n) n (n + 1)) ((rmvC (heaC (seR v i n) n) n (n + 1)).2.1 i 5) = whC (senC v i n) ((senC v i n).2.1 i 5) ∧ EV g A M b (senC v i n) ∧ FrV b M0 M := by
  have e : senC v i n = rmvC (heaC (seR v i n) n) n (n + 1) := if_pos c
  rw [e]
  exact ⟨rfl, ⟨_, hR⟩, hF⟩
theorem sen_b {g : GG} {A : Nat → Prop} {M0 M : MM} {b : Nat} {π : Nat → Nat} {v : VV} {i n : Nat} (c : ¬ (seR v i n).2.2 n 4 = 0) (hR : RepV g A M b π (seR v i n)) (hF : FrV b M0 M) : whC (seR v i n) ((seR v i n).2.1 i 5) = whC (senC v i n) ((senC v i n).2.1 i 5) ∧ EV g A M b (senC v i n) ∧ FrV b M0 M := by
  have e : senC v i n = seR v i n := if_neg c
  rw [e]
  exact ⟨rfl, ⟨_, hR⟩, hF⟩
set_option maxHeartbeats 4000000 in
set_option maxRecDepth 100000 in
/-- a runner is taken from the way -/
theorem k_X6_removeRunner (l : Launch) (g : GG) (A : Nat → Prop) (M0 : MM) (b : Nat) (π : Nat → Nat) (v : VV) (k n : Nat) (hR : RepV g A M0 b π v) (hn : v.1 3 = nI n) (hn20 : n ≤ 20) (hk : k < n) : Met l yX6_removeRunner (Uw yX6_removeRunner cX6_removeRunner 5 (Option.none : Option ClassFile.FieldType)) (rmD 1) (PreM [.ref (b), .int (nI k)] g A M0) (PosV (fun M1 => RepV g A M1 b (rotN k n π) (rmvC v k n) ∧ FrV b M0 M1) g A) 0 0 A := by
  refine mk_Met (own := RX6) rfl rfl (by decide) (Nat.le_of_ble_eq_true rfl) ?_
  intro p e s m below meth c ls aa Q haa hQ hx hb hr hlk hml hown hts hK hM hS hl hnm
  obtain ⟨M, hMM⟩ : ∃ M, M = M0 := ⟨_, rfl⟩
  rw [← hMM] at hM hR
  have ht : ∀ w ∈ lw_good, w.before _ s = true := fun w h => hts w (List.mem_cons_of_mem _ h)
  have hF : FrV b M0 M := by rw [hMM]; exact FrV.rf
  have hl : lv_has ls 5 [(0, .ref (b)), (1, .int (nI k))] := hl
  refine lv_aload_n hx hb dX6_removeRunner_0 rfl (lv_at hl 0 rfl) ?_
  refine lv_iload_n hx hb dX6_removeRunner_1 rfl (lv_at hl 1 rfl) ?_
  refine m_callRQ (val := some (b + 15 + π k)) (w := .ref (b + 15 + π k)) (rfl) (As := [.int (nI k)]) (rest := []) ⟨hx, hb, hml, hown, ht⟩ (k_X6_runnerAt l g A M b π v (nI k) (some k) hR (by rw [hn, if_neg (nI_ge hk (by omega))]; exact gxn_in (by omega) (by omega))) (cwV 1 ht (gU uw_368 uw_369 uw_370 uw_35 uw_371) rfl rfl rfl (by decide +kernel) ⟨by decide, by decide⟩) hK hM hS (m_recv hK hM hR.AW hR.W rfl) rfl hl.1 rfl (Nat.le_of_ble_eq_true rfl) dX6_removeRunner_2 ⟨by decide, by decide⟩ (fun H locs hM hS => ?_)
  refine lv_astore_n (lv' := [(2, .ref (b + 15 + π k)), (0, .ref (b)), (1, .int (nI k))]) hx hb dX6_removeRunner_5 rfl hl (by decide) rfl (fun ls hl => ?_)
  have hk20 : k < 20 := by omega
  have hR0 := hR
  refine lv_aload_n hx hb dX6_removeRunner_6 rfl (lv_at hl 1 rfl) ?_
  refine rv_getW hx hb ht ui_X6 hown hK hM hR 3 (by decide) (ht _ uw_194) dX6_removeRunner_7 ?_
  rw [hn]
  refine lv_iconst (v := nI 1) hx hb dX6_removeRunner_10 (by first | rfl | decide) ?_
  refine lv_isub hx hb dX6_removeRunner_11 ?_
  rw [show nI n - nI 1 = nI (n - 1) from pk_sub (show 1 ≤ n by omega)]
  refine lv_istore_n (lv' := [(3, .int (nI (n - 1))), (2, .ref (b + 15 + π k)), (0, .ref (b)), (1, .int (nI k))]) hx hb dX6_removeRunner_12 rfl hl (by decide) rfl (fun ls hl => ?_)
  refine lv_aload_n hx hb dX6_removeRunner_13 rfl (lv_at hl 1 rfl) ?_
  refine lv_ifnull hx hb dX6_removeRunner_14 ?_
  refine lv_iload_n hx hb dX6_removeRunner_17 rfl (lv_at hl 0 rfl) ?_
  refine lv_aload_n hx hb dX6_removeRunner_18 rfl (lv_at hl 2 rfl) ?_
  refine rv_getra hx hb ht ui_X6 hown hK hM hR (ht _ uw_198) dX6_removeRunner_19 ?_
  refine rv_lenR hx hb hK hM hR dX6_removeRunner_22 ?_
  refine lv_icmp_lt (tgt := 27) hx hb dX6_removeRunner_23 (by decide) (fun c_23 => ?_) (fun c_23 => absurd (Int32.not_le.mp (nI_ge (show n - 1 < 20 by omega) (by omega))) c_23)
  refine lv_iload_n hx hb dX6_removeRunner_27 rfl (lv_at hl 3 rfl) ?_
  refine lv_istore (lv' := [(4, .int (nI k)), (3, .int (nI (n - 1))), (2, .ref (b + 15 + π k)), (0, .ref (b)), (1, .int (nI k))]) hx hb dX6_removeRunner_28 hl (by decide) rfl (fun ls hl => ?_)
  have loop_30 : ∀ (z_30 : Nat) (i : Nat) (M : MM) (H : Heap) (locs : List Loc) (ls : Array Slot), n - 1 - i < z_30 → k ≤ i → i ≤ n - 1 → M = va_up M0 (b + 2) (raE g b (rhoN k i π)) → HD g A M H → va_S A s.heap H locs → lv_has ls 5 [(4, .int (nI i)), (3, .int (nI (n - 1))), (2, .ref (b + 15 + π k)), (0, .ref (b)), (1, .int (nI k))] → W p l e (rmD 1) s m aa below meth c H locs 0 0 Q (F0 m 30 ls []) := by
    intro z_30
    induction z_30 with
    | zero => intro i M H locs ls hz hi1 hi2 hMu; exact absurd hz (Nat.not_lt_zero _)
    | succ z_30 ih_30 =>
    intro i M H locs ls hz hi1 hi2 hMu hM  hS hl
    have hW : M b = wE b v.1 := by rw [hMu, va_up_ne _ _ (by omega), ← hMM]; exact hR0.W
    have hRA : M (b + 2) = raE g b (rhoN k i π) := by rw [hMu]; exact va_up_self _ _ _
    have hPi : ∀ j, j < 20 → M (b + 15 + π j) = rE (v.2.2 j) := fun j hj => by rw [hMu, va_up_ne _ _ (by omega), ← hMM]; exact hR0.R hj
    refine lv_iload hx hb dX6_removeRunner_30 (lv_at hl 0 rfl) ?_
    refine lv_iload_n hx hb dX6_removeRunner_32 rfl (lv_at hl 1 rfl) ?_
    refine lv_icmp_ge (tgt := 58) hx hb dX6_removeRunner_33 (by decide) (fun c_33 => ?_) (fun c_33 => ?_)
    · have hin : i = n - 1 := Nat.le_antisymm hi2 (nI_le_of (by omega) (by omega) c_33)
      subst hin
      refine lv_aload_n hx hb dX6_removeRunner_58 rfl (lv_at hl 3 rfl) ?_
      refine m_get (ci := 6) (C := RX6) (T := TX6) (N := 6) hx hb ht ui_X6 hown hK hM hR0.AW hW rfl 5 (by decide) (ht _ uw_198) rfl dX6_removeRunner_59 ?_
      refine lv_iload_n hx hb dX6_removeRunner_62 rfl (lv_at hl 1 rfl) ?_
      refine lv_aload_n hx hb dX6_removeRunner_63 rfl (lv_at hl 2 rfl) ?_
      refine m_aast hx hb hK hM hS hR0.ARA 4 5 hRA rfl (hR0.AR (show k < 20 by omega)) ((hPi _ (show k < 20 by omega)).trans rfl) rfl (vp_in_nI (show n - 1 < 20 by omega) (by omega)) dX6_removeRunner_64 (fun H locs hM hS => ?_)
      rw [hMu, va_upup, show (Sum.inl (g.2 4, 20, Sum.inr (Sum.inr (Sum.inr (Sum.inr (va_up (fun j => some (b + 15 + rhoN k (n - 1) π j)) (nI (n - 1)).toNatClampNeg (some (b + 15 + π k))))))) : va_E) = raE g b (rotN k n π) by rw [nI_clamp (show n - 1 < 2 ^ 31 by omega), rho_end k n hk π b]] at hM
      have hR2 : RepV g A (va_up M0 (b + 2) (raE g b (rotN k n π))) b (rotN k n π) (v.1, v.2.1, rotN k n v.2.2) := by rw [← hMM]; exact hR0.setRA (rot_perm hk hn20 hR0.perm) (rot_rows hk hn20)
      have hF : FrV b M0 (va_up M0 (b + 2) (raE g b (rotN k n π))) := FrV.rf.up (by omega) (by omega)
      have hR := hR2
      refine lv_aload_n hx hb dX6_removeRunner_65 rfl (lv_at hl 3 rfl) ?_
      refine lv_iload_n hx hb dX6_removeRunner_66 rfl (lv_at hl 1 rfl) ?_
      refine rv_putW hx hb ht ui_X6 hown hK hM hS hR hF 3 (by decide) (ht _ uw_194) dX6_removeRunner_67 (fun M H locs hM hR hF hS => ?_)
      subst hQ
      exact m_vret hx hb hr hlk hK hM hS dX6_removeRunner_70 (⟨RepV.eq hR (by unfold rmvC; rfl), hF⟩)
    · have hin : i < n - 1 := nI_lt_of (by omega) (by omega) c_33
      refine lv_aload_n hx hb dX6_removeRunner_36 rfl (lv_at hl 3 rfl) ?_
      refine m_get (ci := 6) (C := RX6) (T := TX6) (N := 6) hx hb ht ui_X6 hown hK hM hR0.AW hW rfl 5 (by decide) (ht _ uw_198) rfl dX6_removeRunner_37 ?_
      refine lv_iload hx hb dX6_removeRunner_40 (lv_at hl 0 rfl) ?_
      refine lv_aload_n hx hb dX6_removeRunner_42 rfl (lv_at hl 3 rfl) ?_
      refine m_get (ci := 6) (C := RX6) (T := TX6) (N := 6) hx hb ht ui_X6 hown hK hM hR0.AW hW rfl 5 (by decide) (ht _ uw_198) rfl dX6_removeRunner_43 ?_
      refine lv_iload hx hb dX6_removeRunner_46 (lv_at hl 0 rfl) ?_
      refine lv_iconst (v := nI 1) hx hb dX6_removeRunner_48 (by first | rfl | decide) ?_
      refine lv_iadd hx hb dX6_removeRunner_49 ?_
      rw [nI_add]
      have e41 : rhoN k i π (i + 1) = π (i + 1) := if_neg (by omega)
      refine m_aald hx hb hK hM hR0.ARA 4 hRA rfl (vp_in_nI (show i + 1 < 20 by omega) (by omega)) (r := .ref (b + 15 + π (i + 1))) (by rw [nI_clamp (by omega), e41]; rfl) dX6_removeRunner_50 ?_
      refine m_aast hx hb hK hM hS hR0.ARA 4 5 hRA rfl (hR0.AR (show i + 1 < 20 by omega)) ((hPi _ (show i + 1 < 20 by omega)).trans rfl) rfl (vp_in_nI (show i < 20 by omega) (by omega)) dX6_removeRunner_51 (fun H locs hM hS => ?_)
      rw [hMu, va_upup, show (Sum.inl (g.2 4, 20, Sum.inr (Sum.inr (Sum.inr (Sum.inr (va_up (fun j => some (b + 15 + rhoN k i π j)) (nI i).toNatClampNeg (some (b + 15 + π (i + 1)))))))) : va_E) = raE g b (rhoN k (i + 1) π) by rw [nI_clamp (show i < 2 ^ 31 by omega), rho_up k i hi1 π b]] at hM
      refine lv_iinc (v := nI (i + 1)) (lv' := [(4, .int (nI (i + 1))), (3, .int (nI (n - 1))), (2, .ref (b + 15 + π k)), (0, .ref (b)), (1, .int (nI k))]) hx hb dX6_removeRunner_52 hl (k := 0) rfl (nI_1 _) (by decide) rfl (fun ls hl => ?_)
      refine lv_goto (tgt := 30) hx hb dX6_removeRunner_55 (by decide) ?_
      exact ih_30 (i + 1) _ _ _ _ (by omega) (by omega) (by omega) rfl hM hS (lv_sub hl [0, 1, 2, 3, 4] rfl)
  exact loop_30 _ k _ _ _ _ (Nat.lt_succ_self _) (Nat.le_refl _) (by omega) (by rw [rho_0, hMM]; funext q; exact (va_upself (by rw [← hMM]; exact hR0.RA) q).symm) hM hS (lv_sub hl [0, 1, 2, 3, 4] rfl)

set_option maxHeartbeats 4000000 in
set_option maxRecDepth 100000 in
/-- all runners an hour nearer; those who have come tell -/
theorem k_X6_moveRunners (l : Launch) (g : GG) (A : Nat → Prop) (M0 : MM) (b : Nat) (π : Nat → Nat) (v : VV) (hR : RepV g A M0 b π v) (n : Nat) (hn : v.1 3 = nI n) (hn20 : n ≤ 20)  : Met l yX6_moveRunners (Uw yX6_moveRunners cX6_moveRunners 4 (Option.none : Option ClassFile.FieldType)) (rmD 3) (PreM [.ref (b)] g A M0) (PosV (fun M1 => EV g A M1 b (movC n 0 v) ∧ FrV b M0 M1) g A) 0 0 A := by
  refine mk_Met (own := RX6) rfl rfl (by decide) (Nat.le_of_ble_eq_true rfl) ?_
  intro p e s m below meth c ls aa Q haa hQ hx hb hr hlk hml hown hts hK hM hS hl hnm
  obtain ⟨M, hMM⟩ : ∃ M, M = M0 := ⟨_, rfl⟩
  rw [← hMM] at hM hR
  have ht : ∀ w ∈ lw_good, w.before _ s = true := fun w h => hts w (List.mem_cons_of_mem _ h)
  have hF : FrV b M0 M := by rw [hMM]; exact FrV.rf
  have hl : lv_has ls 4 [(0, .ref (b))] := hl
  obtain ⟨v0, hv0⟩ : ∃ v0, v0 = movC n 0 v := ⟨_, rfl⟩
  rw [← hv0] at hQ
  refine lv_iconst (v := nI 0) hx hb dX6_moveRunners_0 (by first | rfl | decide) ?_
  refine lv_istore_n (lv' := [(1, .int (nI 0)), (0, .ref (b))]) hx hb dX6_moveRunners_1 rfl hl (by decide) rfl (fun ls hl => ?_)
  refine lv_aload_n hx hb dX6_moveRunners_2 rfl (lv_at hl 1 rfl) ?_
  refine rv_getW hx hb ht ui_X6 hown hK hM hR 3 (by decide) (ht _ uw_194) dX6_moveRunners_3 ?_
  refine lv_istore_n (lv' := [(2, .int (v.1 3)), (1, .int (nI 0)), (0, .ref (b))]) hx hb dX6_moveRunners_6 rfl hl (by decide) rfl (fun ls hl => ?_)
  have loop_7 : ∀ (z_7 : Nat) (k : Nat) (y : Nat) (π : Nat → Nat) (v : VV) (M : MM) (H : Heap) (locs : List Loc) (ls : Array Slot), y < z_7 → v.1 3 = nI (k + y) → k + y ≤ 20 → movC y k v = v0 → HD g A M H → RepV g A M b π v → FrV b M0 M → va_S A s.heap H locs → lv_has ls 4 [(2, .int (nI y)), (1, .int (nI k)), (0, .ref (b))] → W p l e (rmD 3) s m aa below meth c H locs 0 0 Q (F0 m 7 ls []) := by
    intro z_7
    induction z_7 with
    | zero => intro k y π v M H locs ls hz hn hn20 hv; exact absurd hz (Nat.not_lt_zero _)
    | succ z_7 ih_7 =>
    intro k y π v M H locs ls hz hn hn20 hv hM hR hF hS hl
    refine lv_iload_n hx hb dX6_moveRunners_7 rfl (lv_at hl 0 rfl) ?_
    refine lv_if_le (tgt := 61) hx hb dX6_moveRunners_8 (by decide) (fun c_8 => ?_) (fun c_8 => ?_)
    · have hy : y = 0 := Nat.le_zero.mp (nI_le_of (by omega) (by omega) c_8)
      subst hy
      subst hQ
      exact m_vret hx hb hr hlk hK hM hS dX6_moveRunners_61 (⟨⟨π, RepV.eq hR hv.symm⟩, hF⟩)
    · obtain ⟨u, hu⟩ : ∃ u, y = u + 1 := ⟨y - 1, by have := Nat.pos_of_ne_zero (fun q => c_8 (by rw [q]; decide) : y ≠ 0); omega⟩
      subst hu
      have hk20 : k < 20 := by omega
      refine lv_aload_n hx hb dX6_moveRunners_11 rfl (lv_at hl 2 rfl) ?_
      refine lv_iload_n hx hb dX6_moveRunners_12 rfl (lv_at hl 1 rfl) ?_
      refine m_callRQ (val := some (b + 15 + π k)) (w := .ref (b + 15 + π k)) (rfl) (As := [.int (nI k)]) (rest := []) ⟨hx, hb, hml, hown, ht⟩ (k_X6_runnerAt l g A M b π v (nI k) (some k) hR (by rw [hn, if_neg (nI_ge (show k < k + (u + 1) by omega) (by omega))]; exact gxn_in (by omega) (by omega))) (cwV 1 ht (gU uw_368 uw_369 uw_370 uw_35 uw_371) rfl rfl rfl (by decide +kernel) ⟨by decide, by decide⟩) hK hM hS (m_recv hK hM hR.AW hR.W rfl) rfl hl.1 rfl (Nat.le_of_ble_eq_true rfl) dX6_moveRunners_13 ⟨by decide, by decide⟩ (fun H locs hM hS => ?_)
      refine lv_astore_n (lv' := [(3, .ref (b + 15 + π k)), (2, .int (nI (u + 1))), (1, .int (nI k)), (0, .ref (b))]) hx hb dX6_moveRunners_16 rfl hl (by decide) rfl (fun ls hl => ?_)
      refine lv_aload_n hx hb dX6_moveRunners_17 rfl (lv_at hl 0 rfl) ?_
      refine lv_ifnonnull (tgt := 22) hx hb dX6_moveRunners_18 (by decide) ?_
      refine lv_aload_n hx hb dX6_moveRunners_22 rfl (lv_at hl 0 rfl) ?_
      refine lv_dup hx hb dX6_moveRunners_23 rfl ?_
      refine rv_getR hx hb ht ui_X5 hown hK hM hR hk20 4 (by decide) (ht _ uw_175) dX6_moveRunners_24 ?_
      refine lv_iconst (v := nI 1) hx hb dX6_moveRunners_27 (by first | rfl | decide) ?_
      refine lv_isub hx hb dX6_moveRunners_28 ?_
      refine rv_putR hx hb ht ui_X5 hown hK hM hS hR hF hk20 4 (by decide) (ht _ uw_175) dX6_moveRunners_29 (fun M H locs hM hR hF hS => ?_)
      refine lv_aload_n hx hb dX6_moveRunners_32 rfl (lv_at hl 0 rfl) ?_
      refine rv_getR hx hb ht ui_X5 hown hK hM hR hk20 4 (by decide) (ht _ uw_175) dX6_moveRunners_33 ?_
      refine lv_if_le (tgt := 45) hx hb dX6_moveRunners_36 (by decide) (fun c_36 => ?_) (fun c_36 => ?_)
      · refine lv_aload_n hx hb dX6_moveRunners_45 rfl (lv_at hl 3 rfl) ?_
        refine lv_aload_n hx hb dX6_moveRunners_46 rfl (lv_at hl 0 rfl) ?_
        refine m_callV (As := [.ref (b + 15 + π k)]) (rest := []) ⟨hx, hb, hml, hown, ht⟩ (k_X6_hear l g A M b π (vR v k 4 (v.2.2 k 4 - nI 1)) k hR hk20) (cwV 1 ht (gU uw_372 uw_374 uw_2 uw_35 uw_375) rfl rfl rfl (by decide +kernel) ⟨by decide, by decide⟩) hK hM hS (m_recv hK hM hR.AW hR.W rfl) rfl hl.1 rfl (Nat.le_of_ble_eq_true rfl) dX6_moveRunners_47 ⟨by decide, by decide⟩ (fun M H locs hp hM hS => ?_)
        obtain ⟨hR, hF1⟩ := hp
        have hF := hF.tr hF1
        refine lv_aload_n hx hb dX6_moveRunners_50 rfl (lv_at hl 3 rfl) ?_
        refine lv_iload_n hx hb dX6_moveRunners_51 rfl (lv_at hl 2 rfl) ?_
        refine m_callV (As := [.int (nI k)]) (rest := []) ⟨hx, hb, hml, hown, ht⟩ (k_X6_removeRunner l g A M b π (heaC (vR v k 4 (v.2.2 k 4 - nI 1)) k) k (k + u + 1) hR (by rw [heaC_1]; exact hn) (by omega) (by omega)) (cwV 1 ht (gU uw_392 uw_393 uw_394 uw_35 uw_395) rfl rfl rfl (by decide +kernel) ⟨by decide, by decide⟩) hK hM hS (m_recv hK hM hR.AW hR.W rfl) rfl hl.1 rfl (Nat.le_of_ble_eq_true rfl) dX6_moveRunners_52 ⟨by decide, by decide⟩ (fun M H locs hp hM hS => ?_)
        obtain ⟨hR, hF1⟩ := hp
        have hF := hF.tr hF1
        refine lv_iinc (v := nI u) (lv' := [(2, .int (nI u)), (3, .ref (b + 15 + π k)), (1, .int (nI k)), (0, .ref (b))]) hx hb dX6_moveRunners_55 hl (k := 1) rfl (pk_m1 u) (by decide) rfl (fun ls hl => ?_)
        refine lv_goto (tgt := 7) hx hb dX6_moveRunners_58 (by decide) ?_
        exact ih_7 k u _ (rmvC (heaC (vR v k 4 (v.2.2 k 4 - nI 1)) k) k (k + u + 1)) _ _ _ _ (by omega) (by rw [rmvC_3]; rfl) (by omega) (by rw [← hv]; exact (if_pos (mov_d c_36)).symm) hM hR hF hS (lv_sub hl [0, 2, 3] rfl)
      · refine lv_iinc (v := nI (k + 1)) (lv' := [(1, .int (nI (k + 1))), (3, .ref (b + 15 + π k)), (2, .int (nI (u + 1))), (0, .ref (b))]) hx hb dX6_moveRunners_39 hl (k := 2) rfl (nI_1 k) (by decide) rfl (fun ls hl => ?_)
        refine lv_goto (tgt := 55) hx hb dX6_moveRunners_42 (by decide) ?_
        refine lv_iinc (v := nI u) (lv' := [(2, .int (nI u)), (1, .int (nI (k + 1))), (3, .ref (b + 15 + π k)), (0, .ref (b))]) hx hb dX6_moveRunners_55 hl (k := 2) rfl (pk_m1 u) (by decide) rfl (fun ls hl => ?_)
        refine lv_goto (tgt := 7) hx hb dX6_moveRunners_58 (by decide) ?_
        exact ih_7 (k + 1) u _ (vR v k 4 (v.2.2 k 4 - nI 1)) _ _ _ _ (by omega) (by rw [show v.1 3 = nI (k + (u + 1)) from hn]; congr 1; omega) (by omega) (by rw [← hv]; exact (if_neg (mov_c c_36)).symm) hM hR hF hS (lv_sub hl [0, 1, 3] rfl)
  rw [hn] at hl
  exact loop_7 _ 0 n π v _ _ _ _ (Nat.lt_succ_self _) (by rw [hn]; congr 1; omega) (by omega) hv0.symm hM hR hF hS (lv_sub hl [0, 1, 2] rfl)

set_option maxHeartbeats 4000000 in
set_option maxRecDepth 100000 in
/-- a runner is sent -/
theorem k_X6_sendRunner (l : Launch) (g : GG) (A : Nat → Prop) (M0 : MM) (b : Nat) (π : Nat → Nat) (v : VV) (i : Nat) (hR : RepV g A M0 b π v) (n : Nat) (hn : v.1 3 = nI n) (hn20 : n ≤ 20) (hi : i < 6) : Met l yX6_sendRunner (Uw yX6_sendRunner cX6_sendRunner 4 (Option.some ClassFile.FieldType.int)) (rmD 3) (PreM [.ref (b), .int (nI i)] g A M0) (PosI (fun r M1 => (n < 20 → r = whC (senC v i n) ((senC v i n).2.1 i 5) ∧ EV g A M1 b (senC v i n) ∧ FrV b M0 M1) ∧ (¬ n < 20 → r = -1000004 ∧ M1 = M0)) g A) 0 0 A := by
  refine mk_Met (own := RX6) rfl rfl (by decide) (Nat.le_of_ble_eq_true rfl) ?_
  intro p e s m below meth c ls aa Q haa hQ hx hb hr hlk hml hown hts hK hM hS hl hnm
  obtain ⟨M, hMM⟩ : ∃ M, M = M0 := ⟨_, rfl⟩
  rw [← hMM] at hM hR
  have ht : ∀ w ∈ lw_good, w.before _ s = true := fun w h => hts w (List.mem_cons_of_mem _ h)
  have hF : FrV b M0 M := by rw [hMM]; exact FrV.rf
  have hl : lv_has ls 4 [(0, .ref (b)), (1, .int (nI i))] := hl
  by_cases hlt : n < 20
  · refine lv_aload_n hx hb dX6_sendRunner_0 rfl (lv_at hl 0 rfl) ?_
    refine lv_iload_n hx hb dX6_sendRunner_1 rfl (lv_at hl 1 rfl) ?_
    refine m_callRQ (val := some (b + 3 + 2 * i)) (w := .ref (b + 3 + 2 * i)) (rfl) (As := [.int (nI i)]) (rest := []) ⟨hx, hb, hml, hown, ht⟩ (k_X6_gaugeAt l g A M b π v (nI i) (some i) hR (gxn_in hi (by decide))) (cwV 1 ht (gU uw_336 uw_337 uw_338 uw_35 uw_339) rfl rfl rfl (by decide +kernel) ⟨by decide, by decide⟩) hK hM hS (m_recv hK hM hR.AW hR.W rfl) rfl hl.1 rfl (Nat.le_of_ble_eq_true rfl) dX6_sendRunner_2 ⟨by decide, by decide⟩ (fun H locs hM hS => ?_)
    refine lv_astore_n (lv' := [(2, .ref (b + 3 + 2 * i)), (0, .ref (b)), (1, .int (nI i))]) hx hb dX6_sendRunner_5 rfl hl (by decide) rfl (fun ls hl => ?_)
    refine lv_aload_n hx hb dX6_sendRunner_6 rfl (lv_at hl 0 rfl) ?_
    refine lv_ifnonnull (tgt := 13) hx hb dX6_sendRunner_7 (by decide) ?_
    refine lv_aload_n hx hb dX6_sendRunner_13 rfl (lv_at hl 1 rfl) ?_
    refine m_callQ (As := []) (rest := []) ⟨hx, hb, hml, hown, ht⟩ (k_X6_addRunner l g A M b π v hR n hn hn20) (cwV 0 ht (gU uw_409 uw_411 uw_6 uw_35 uw_412) rfl rfl rfl (by decide +kernel) ⟨by decide, by decide⟩) hK hM hS (m_recv hK hM hR.AW hR.W rfl) rfl hl.1 rfl (Nat.le_of_ble_eq_true rfl) dX6_sendRunner_14 ⟨by decide, by decide⟩ (fun r9 M H locs hp hM hS => ?_)
    obtain ⟨e9, hR, hF1⟩ := hp.1 hlt
    subst e9
    have hF := hF.tr hF1
    refine lv_astore_n (lv' := [(3, .ref (b + 15 + π n)), (2, .ref (b + 3 + 2 * i)), (0, .ref (b)), (1, .int (nI i))]) hx hb dX6_sendRunner_17 rfl hl (by decide) rfl (fun ls hl => ?_)
    refine lv_aload_n hx hb dX6_sendRunner_18 rfl (lv_at hl 0 rfl) ?_
    refine lv_ifnonnull (tgt := 25) hx hb dX6_sendRunner_19 (by decide) ?_
    refine lv_aload_n hx hb dX6_sendRunner_25 rfl (lv_at hl 0 rfl) ?_
    refine lv_iload_n hx hb dX6_sendRunner_26 rfl (lv_at hl 3 rfl) ?_
    refine rv_putR hx hb ht ui_X5 hown hK hM hS hR hF hlt 0 (by decide) (ht _ uw_165) dX6_sendRunner_27 (fun M H locs hM hR hF hS => ?_)
    refine lv_aload_n hx hb dX6_sendRunner_30 rfl (lv_at hl 0 rfl) ?_
    refine lv_aload_n hx hb dX6_sendRunner_31 rfl (lv_at hl 1 rfl) ?_
    refine rv_getG hx hb ht ui_X0 hown hK hM hR hi 5 (by decide) (ht _ uw_131) dX6_sendRunner_32 ?_
    refine rv_putR hx hb ht ui_X5 hown hK hM hS hR hF hlt 1 (by decide) (ht _ uw_167) dX6_sendRunner_35 (fun M H locs hM hR hF hS => ?_)
    refine lv_aload_n hx hb dX6_sendRunner_38 rfl (lv_at hl 0 rfl) ?_
    refine lv_aload_n hx hb dX6_sendRunner_39 rfl (lv_at hl 2 rfl) ?_
    refine rv_getW hx hb ht ui_X6 hown hK hM hR 2 (by decide) (ht _ uw_192) dX6_sendRunner_40 ?_
    refine rv_putR hx hb ht ui_X5 hown hK hM hS hR hF hlt 2 (by decide) (ht _ uw_170) dX6_sendRunner_43 (fun M H locs hM hR hF hS => ?_)
    refine lv_aload_n hx hb dX6_sendRunner_46 rfl (lv_at hl 0 rfl) ?_
    refine lv_aload_n hx hb dX6_sendRunner_47 rfl (lv_at hl 2 rfl) ?_
    refine rv_getga hx hb ht ui_X6 hown hK hM hR (ht _ uw_196) dX6_sendRunner_48 ?_
    refine lv_iconst (v := nI 0) hx hb dX6_sendRunner_51 (by first | rfl | decide) ?_
    refine rv_aldG hx hb hK hM hR ((by decide : 0 < 6)) dX6_sendRunner_52 ?_
    refine rv_getG hx hb ht ui_X0 hown hK hM hR ((by decide : 0 < 6)) 6 (by decide) (ht _ uw_133) dX6_sendRunner_53 ?_
    refine rv_putR hx hb ht ui_X5 hown hK hM hS hR hF hlt 3 (by decide) (ht _ uw_173) dX6_sendRunner_56 (fun M H locs hM hR hF hS => ?_)
    refine lv_aload_n hx hb dX6_sendRunner_59 rfl (lv_at hl 0 rfl) ?_
    refine lv_aload_n hx hb dX6_sendRunner_60 rfl (lv_at hl 1 rfl) ?_
    refine rv_getG hx hb ht ui_X0 hown hK hM hR hi 3 (by decide) (ht _ uw_126) dX6_sendRunner_61 ?_
    refine rv_putR hx hb ht ui_X5 hown hK hM hS hR hF hlt 4 (by decide) (ht _ uw_175) dX6_sendRunner_64 (fun M H locs hM hR hF hS => ?_)
    have se3 : (seR v i n).1 3 = nI (n + 1) := by simp [seR, va_up, nI_1]
    refine lv_aload_n hx hb dX6_sendRunner_67 rfl (lv_at hl 0 rfl) ?_
    refine rv_getR hx hb ht ui_X5 hown hK hM hR hlt 4 (by decide) (ht _ uw_175) dX6_sendRunner_68 ?_
    refine lv_if_ne (tgt := 89) hx hb dX6_sendRunner_71 (by decide) (fun c_71 => ?_) (fun c_71 => ?_)
    · refine lv_aload_n hx hb dX6_sendRunner_89 rfl (lv_at hl 2 rfl) ?_
      refine lv_aload_n hx hb dX6_sendRunner_90 rfl (lv_at hl 1 rfl) ?_
      refine rv_getG hx hb ht ui_X0 hown hK hM hR hi 5 (by decide) (ht _ uw_131) dX6_sendRunner_91 ?_
      refine m_callRI (val := whC (vR (vR (vR (vR (vR (vW v 3 (nI n + 1)) n 0 (nI i)) n 1 ((vR (vW v 3 (nI n + 1)) n 0 (nI i)).2.1 i 5)) n 2 ((vR (vR (vW v 3 (nI n + 1)) n 0 (nI i)) n 1 ((vR (vW v 3 (nI n + 1)) n 0 (nI i)).2.1 i 5)).1 2)) n 3 ((vR (vR (vR (vW v 3 (nI n + 1)) n 0 (nI i)) n 1 ((vR (vW v 3 (nI n + 1)) n 0 (nI i)).2.1 i 5)) n 2 ((vR (vR (vW v 3 (nI n + 1)) n 0 (nI i)) n 1 ((vR (vW v 3 (nI n + 1)) n 0 (nI i)).2.1 i 5)).1 2)).2.1 0 6)) n 4 ((vR (vR (vR (vR (vW v 3 (nI n + 1)) n 0 (nI i)) n 1 ((vR (vW v 3 (nI n + 1)) n 0 (nI i)).2.1 i 5)) n 2 ((vR (vR (vW v 3 (nI n + 1)) n 0 (nI i)) n 1 ((vR (vW v 3 (nI n + 1)) n 0 (nI i)).2.1 i 5)).1 2)) n 3 ((vR (vR (vR (vW v 3 (nI n + 1)) n 0 (nI i)) n 1 ((vR (vW v 3 (nI n + 1)) n 0 (nI i)).2.1 i 5)) n 2 ((vR (vR (vW v 3 (nI n + 1)) n 0 (nI i)) n 1 ((vR (vW v 3 (nI n + 1)) n 0 (nI i)).2.1 i 5)).1 2)).2.1 0 6)).2.1 i 3)) ((vR (vR (vR (vR (vR (vW v 3 (nI n + 1)) n 0 (nI i)) n 1 ((vR (vW v 3 (nI n + 1)) n 0 (nI i)).2.1 i 5)) n 2 ((vR (vR (vW v 3 (nI n + 1)) n 0 (nI i)) n 1 ((vR (vW v 3 (nI n + 1)) n 0 (nI i)).2.1 i 5)).1 2)) n 3 ((vR (vR (vR (vW v 3 (nI n + 1)) n 0 (nI i)) n 1 ((vR (vW v 3 (nI n + 1)) n 0 (nI i)).2.1 i 5)) n 2 ((vR (vR (vW v 3 (nI n + 1)) n 0 (nI i)) n 1 ((vR (vW v 3 (nI n + 1)) n 0 (nI i)).2.1 i 5)).1 2)).2.1 0 6)) n 4 ((vR (vR (vR (vR (vW v 3 (nI n + 1)) n 0 (nI i)) n 1 ((vR (vW v 3 (nI n + 1)) n 0 (nI i)).2.1 i 5)) n 2 ((vR (vR (vW v 3 (nI n + 1)) n 0 (nI i)) n 1 ((vR (vW v 3 (nI n + 1)) n 0 (nI i)).2.1 i 5)).1 2)) n 3 ((vR (vR (vR (vW v 3 (nI n + 1)) n 0 (nI i)) n 1 ((vR (vW v 3 (nI n + 1)) n 0 (nI i)).2.1 i 5)) n 2 ((vR (vR (vW v 3 (nI n + 1)) n 0 (nI i)) n 1 ((vR (vW v 3 (nI n + 1)) n 0 (nI i)).2.1 i 5)).1 2)).2.1 0 6)).2.1 i 3)).2.1 i 5)) (As := [.int ((vR (vR (vR (vR (vR (vW v 3 (nI n + 1)) n 0 (nI i)) n 1 ((vR (vW v 3 (nI n + 1)) n 0 (nI i)).2.1 i 5)) n 2 ((vR (vR (vW v 3 (nI n + 1)) n 0 (nI i)) n 1 ((vR (vW v 3 (nI n + 1)) n 0 (nI i)).2.1 i 5)).1 2)) n 3 ((vR (vR (vR (vW v 3 (nI n + 1)) n 0 (nI i)) n 1 ((vR (vW v 3 (nI n + 1)) n 0 (nI i)).2.1 i 5)) n 2 ((vR (vR (vW v 3 (nI n + 1)) n 0 (nI i)) n 1 ((vR (vW v 3 (nI n + 1)) n 0 (nI i)).2.1 i 5)).1 2)).2.1 0 6)) n 4 ((vR (vR (vR (vR (vW v 3 (nI n + 1)) n 0 (nI i)) n 1 ((vR (vW v 3 (nI n + 1)) n 0 (nI i)).2.1 i 5)) n 2 ((vR (vR (vW v 3 (nI n + 1)) n 0 (nI i)) n 1 ((vR (vW v 3 (nI n + 1)) n 0 (nI i)).2.1 i 5)).1 2)) n 3 ((vR (vR (vR (vW v 3 (nI n + 1)) n 0 (nI i)) n 1 ((vR (vW v 3 (nI n + 1)) n 0 (nI i)).2.1 i 5)) n 2 ((vR (vR (vW v 3 (nI n + 1)) n 0 (nI i)) n 1 ((vR (vW v 3 (nI n + 1)) n 0 (nI i)).2.1 i 5)).1 2)).2.1 0 6)).2.1 i 3)).2.1 i 5)]) (rest := []) ⟨hx, hb, hml, hown, ht⟩ (k_X6_wheelAt l g A M b _ (vR (vR (vR (vR (vR (vW v 3 (nI n + 1)) n 0 (nI i)) n 1 ((vR (vW v 3 (nI n + 1)) n 0 (nI i)).2.1 i 5)) n 2 ((vR (vR (vW v 3 (nI n + 1)) n 0 (nI i)) n 1 ((vR (vW v 3 (nI n + 1)) n 0 (nI i)).2.1 i 5)).1 2)) n 3 ((vR (vR (vR (vW v 3 (nI n + 1)) n 0 (nI i)) n 1 ((vR (vW v 3 (nI n + 1)) n 0 (nI i)).2.1 i 5)) n 2 ((vR (vR (vW v 3 (nI n + 1)) n 0 (nI i)) n 1 ((vR (vW v 3 (nI n + 1)) n 0 (nI i)).2.1 i 5)).1 2)).2.1 0 6)) n 4 ((vR (vR (vR (vR (vW v 3 (nI n + 1)) n 0 (nI i)) n 1 ((vR (vW v 3 (nI n + 1)) n 0 (nI i)).2.1 i 5)) n 2 ((vR (vR (vW v 3 (nI n + 1)) n 0 (nI i)) n 1 ((vR (vW v 3 (nI n + 1)) n 0 (nI i)).2.1 i 5)).1 2)) n 3 ((vR (vR (vR (vW v 3 (nI n + 1)) n 0 (nI i)) n 1 ((vR (vW v 3 (nI n + 1)) n 0 (nI i)).2.1 i 5)) n 2 ((vR (vR (vW v 3 (nI n + 1)) n 0 (nI i)) n 1 ((vR (vW v 3 (nI n + 1)) n 0 (nI i)).2.1 i 5)).1 2)).2.1 0 6)).2.1 i 3)) ((vR (vR (vR (vR (vR (vW v 3 (nI n + 1)) n 0 (nI i)) n 1 ((vR (vW v 3 (nI n + 1)) n 0 (nI i)).2.1 i 5)) n 2 ((vR (vR (vW v 3 (nI n + 1)) n 0 (nI i)) n 1 ((vR (vW v 3 (nI n + 1)) n 0 (nI i)).2.1 i 5)).1 2)) n 3 ((vR (vR (vR (vW v 3 (nI n + 1)) n 0 (nI i)) n 1 ((vR (vW v 3 (nI n + 1)) n 0 (nI i)).2.1 i 5)) n 2 ((vR (vR (vW v 3 (nI n + 1)) n 0 (nI i)) n 1 ((vR (vW v 3 (nI n + 1)) n 0 (nI i)).2.1 i 5)).1 2)).2.1 0 6)) n 4 ((vR (vR (vR (vR (vW v 3 (nI n + 1)) n 0 (nI i)) n 1 ((vR (vW v 3 (nI n + 1)) n 0 (nI i)).2.1 i 5)) n 2 ((vR (vR (vW v 3 (nI n + 1)) n 0 (nI i)) n 1 ((vR (vW v 3 (nI n + 1)) n 0 (nI i)).2.1 i 5)).1 2)) n 3 ((vR (vR (vR (vW v 3 (nI n + 1)) n 0 (nI i)) n 1 ((vR (vW v 3 (nI n + 1)) n 0 (nI i)).2.1 i 5)) n 2 ((vR (vR (vW v 3 (nI n + 1)) n 0 (nI i)) n 1 ((vR (vW v 3 (nI n + 1)) n 0 (nI i)).2.1 i 5)).1 2)).2.1 0 6)).2.1 i 3)).2.1 i 5) hR) (cwV 1 ht (gU uw_376 uw_377 uw_378 uw_35 uw_379) rfl rfl rfl (by decide +kernel) ⟨by decide, by decide⟩) hK hM hS (m_recv hK hM hR.AW hR.W rfl) rfl hl.1 rfl (Nat.le_of_ble_eq_true rfl) dX6_sendRunner_94 ⟨by decide, by decide⟩ (fun H locs hM hS => ?_)
      subst hQ
      exact m_zret hx hb hr (rfl) hlk hK hM hS dX6_sendRunner_97 (⟨fun _ => sen_b c_71 hR hF, fun q => absurd hlt q⟩)
    · refine lv_aload_n hx hb dX6_sendRunner_74 rfl (lv_at hl 2 rfl) ?_
      refine lv_aload_n hx hb dX6_sendRunner_75 rfl (lv_at hl 0 rfl) ?_
      refine m_callV (As := [.ref (b + 15 + π n)]) (rest := []) ⟨hx, hb, hml, hown, ht⟩ (k_X6_hear l g A M b π (vR (vR (vR (vR (vR (vW v 3 (nI n + 1)) n 0 (nI i)) n 1 ((vR (vW v 3 (nI n + 1)) n 0 (nI i)).2.1 i 5)) n 2 ((vR (vR (vW v 3 (nI n + 1)) n 0 (nI i)) n 1 ((vR (vW v 3 (nI n + 1)) n 0 (nI i)).2.1 i 5)).1 2)) n 3 ((vR (vR (vR (vW v 3 (nI n + 1)) n 0 (nI i)) n 1 ((vR (vW v 3 (nI n + 1)) n 0 (nI i)).2.1 i 5)) n 2 ((vR (vR (vW v 3 (nI n + 1)) n 0 (nI i)) n 1 ((vR (vW v 3 (nI n + 1)) n 0 (nI i)).2.1 i 5)).1 2)).2.1 0 6)) n 4 ((vR (vR (vR (vR (vW v 3 (nI n + 1)) n 0 (nI i)) n 1 ((vR (vW v 3 (nI n + 1)) n 0 (nI i)).2.1 i 5)) n 2 ((vR (vR (vW v 3 (nI n + 1)) n 0 (nI i)) n 1 ((vR (vW v 3 (nI n + 1)) n 0 (nI i)).2.1 i 5)).1 2)) n 3 ((vR (vR (vR (vW v 3 (nI n + 1)) n 0 (nI i)) n 1 ((vR (vW v 3 (nI n + 1)) n 0 (nI i)).2.1 i 5)) n 2 ((vR (vR (vW v 3 (nI n + 1)) n 0 (nI i)) n 1 ((vR (vW v 3 (nI n + 1)) n 0 (nI i)).2.1 i 5)).1 2)).2.1 0 6)).2.1 i 3)) n hR hlt) (cwV 1 ht (gU uw_372 uw_374 uw_2 uw_35 uw_375) rfl rfl rfl (by decide +kernel) ⟨by decide, by decide⟩) hK hM hS (m_recv hK hM hR.AW hR.W rfl) rfl hl.1 rfl (Nat.le_of_ble_eq_true rfl) dX6_sendRunner_76 ⟨by decide, by decide⟩ (fun M H locs hp hM hS => ?_)
      obtain ⟨hR, hF1⟩ := hp
      have hF := hF.tr hF1
      refine lv_aload_n hx hb dX6_sendRunner_79 rfl (lv_at hl 2 rfl) ?_
      refine lv_aload_n hx hb dX6_sendRunner_80 rfl (lv_at hl 2 rfl) ?_
      refine rv_getW hx hb ht ui_X6 hown hK hM hR 3 (by decide) (ht _ uw_194) dX6_sendRunner_81 ?_
      refine lv_iconst (v := nI 1) hx hb dX6_sendRunner_84 (by first | rfl | decide) ?_
      refine lv_isub hx hb dX6_sendRunner_85 ?_
      rw [show ((heaC (vR (vR (vR (vR (vR (vW v 3 (nI n + 1)) n 0 (nI i)) n 1 ((vR (vW v 3 (nI n + 1)) n 0 (nI i)).2.1 i 5)) n 2 ((vR (vR (vW v 3 (nI n + 1)) n 0 (nI i)) n 1 ((vR (vW v 3 (nI n + 1)) n 0 (nI i)).2.1 i 5)).1 2)) n 3 ((vR (vR (vR (vW v 3 (nI n + 1)) n 0 (nI i)) n 1 ((vR (vW v 3 (nI n + 1)) n 0 (nI i)).2.1 i 5)) n 2 ((vR (vR (vW v 3 (nI n + 1)) n 0 (nI i)) n 1 ((vR (vW v 3 (nI n + 1)) n 0 (nI i)).2.1 i 5)).1 2)).2.1 0 6)) n 4 ((vR (vR (vR (vR (vW v 3 (nI n + 1)) n 0 (nI i)) n 1 ((vR (vW v 3 (nI n + 1)) n 0 (nI i)).2.1 i 5)) n 2 ((vR (vR (vW v 3 (nI n + 1)) n 0 (nI i)) n 1 ((vR (vW v 3 (nI n + 1)) n 0 (nI i)).2.1 i 5)).1 2)) n 3 ((vR (vR (vR (vW v 3 (nI n + 1)) n 0 (nI i)) n 1 ((vR (vW v 3 (nI n + 1)) n 0 (nI i)).2.1 i 5)) n 2 ((vR (vR (vW v 3 (nI n + 1)) n 0 (nI i)) n 1 ((vR (vW v 3 (nI n + 1)) n 0 (nI i)).2.1 i 5)).1 2)).2.1 0 6)).2.1 i 3)) n).1 3) - (nI 1) = nI n from sen_n se3]
      refine m_callV (As := [.int (nI n)]) (rest := []) ⟨hx, hb, hml, hown, ht⟩ (k_X6_removeRunner l g A M b π (heaC (vR (vR (vR (vR (vR (vW v 3 (nI n + 1)) n 0 (nI i)) n 1 ((vR (vW v 3 (nI n + 1)) n 0 (nI i)).2.1 i 5)) n 2 ((vR (vR (vW v 3 (nI n + 1)) n 0 (nI i)) n 1 ((vR (vW v 3 (nI n + 1)) n 0 (nI i)).2.1 i 5)).1 2)) n 3 ((vR (vR (vR (vW v 3 (nI n + 1)) n 0 (nI i)) n 1 ((vR (vW v 3 (nI n + 1)) n 0 (nI i)).2.1 i 5)) n 2 ((vR (vR (vW v 3 (nI n + 1)) n 0 (nI i)) n 1 ((vR (vW v 3 (nI n + 1)) n 0 (nI i)).2.1 i 5)).1 2)).2.1 0 6)) n 4 ((vR (vR (vR (vR (vW v 3 (nI n + 1)) n 0 (nI i)) n 1 ((vR (vW v 3 (nI n + 1)) n 0 (nI i)).2.1 i 5)) n 2 ((vR (vR (vW v 3 (nI n + 1)) n 0 (nI i)) n 1 ((vR (vW v 3 (nI n + 1)) n 0 (nI i)).2.1 i 5)).1 2)) n 3 ((vR (vR (vR (vW v 3 (nI n + 1)) n 0 (nI i)) n 1 ((vR (vW v 3 (nI n + 1)) n 0 (nI i)).2.1 i 5)) n 2 ((vR (vR (vW v 3 (nI n + 1)) n 0 (nI i)) n 1 ((vR (vW v 3 (nI n + 1)) n 0 (nI i)).2.1 i 5)).1 2)).2.1 0 6)).2.1 i 3)) n) n (n + 1) hR (by rw [heaC_1]; exact se3) (by omega) (by omega)) (cwV 1 ht (gU uw_392 uw_393 uw_394 uw_35 uw_395) rfl rfl rfl (by decide +kernel) ⟨by decide, by decide⟩) hK hM hS (m_recv hK hM hR.AW hR.W rfl) rfl hl.1 rfl (Nat.le_of_ble_eq_true rfl) dX6_sendRunner_86 ⟨by decide, by decide⟩ (fun M H locs hp hM hS => ?_)
      obtain ⟨hR, hF1⟩ := hp
      have hF := hF.tr hF1
      refine lv_aload_n hx hb dX6_sendRunner_89 rfl (lv_at hl 2 rfl) ?_
      refine lv_aload_n hx hb dX6_sendRunner_90 rfl (lv_at hl 1 rfl) ?_
      refine rv_getG hx hb ht ui_X0 hown hK hM hR hi 5 (by decide) (ht _ uw_131) dX6_sendRunner_91 ?_
      refine m_callRI (val := whC (rmvC (heaC (vR (vR (vR (vR (vR (vW v 3 (nI n + 1)) n 0 (nI i)) n 1 ((vR (vW v 3 (nI n + 1)) n 0 (nI i)).2.1 i 5)) n 2 ((vR (vR (vW v 3 (nI n + 1)) n 0 (nI i)) n 1 ((vR (vW v 3 (nI n + 1)) n 0 (nI i)).2.1 i 5)).1 2)) n 3 ((vR (vR (vR (vW v 3 (nI n + 1)) n 0 (nI i)) n 1 ((vR (vW v 3 (nI n + 1)) n 0 (nI i)).2.1 i 5)) n 2 ((vR (vR (vW v 3 (nI n + 1)) n 0 (nI i)) n 1 ((vR (vW v 3 (nI n + 1)) n 0 (nI i)).2.1 i 5)).1 2)).2.1 0 6)) n 4 ((vR (vR (vR (vR (vW v 3 (nI n + 1)) n 0 (nI i)) n 1 ((vR (vW v 3 (nI n + 1)) n 0 (nI i)).2.1 i 5)) n 2 ((vR (vR (vW v 3 (nI n + 1)) n 0 (nI i)) n 1 ((vR (vW v 3 (nI n + 1)) n 0 (nI i)).2.1 i 5)).1 2)) n 3 ((vR (vR (vR (vW v 3 (nI n + 1)) n 0 (nI i)) n 1 ((vR (vW v 3 (nI n + 1)) n 0 (nI i)).2.1 i 5)) n 2 ((vR (vR (vW v 3 (nI n + 1)) n 0 (nI i)) n 1 ((vR (vW v 3 (nI n + 1)) n 0 (nI i)).2.1 i 5)).1 2)).2.1 0 6)).2.1 i 3)) n) n (n + 1)) ((rmvC (heaC (vR (vR (vR (vR (vR (vW v 3 (nI n + 1)) n 0 (nI i)) n 1 ((vR (vW v 3 (nI n + 1)) n 0 (nI i)).2.1 i 5)) n 2 ((vR (vR (vW v 3 (nI n + 1)) n 0 (nI i)) n 1 ((vR (vW v 3 (nI n + 1)) n 0 (nI i)).2.1 i 5)).1 2)) n 3 ((vR (vR (vR (vW v 3 (nI n + 1)) n 0 (nI i)) n 1 ((vR (vW v 3 (nI n + 1)) n 0 (nI i)).2.1 i 5)) n 2 ((vR (vR (vW v 3 (nI n + 1)) n 0 (nI i)) n 1 ((vR (vW v 3 (nI n + 1)) n 0 (nI i)).2.1 i 5)).1 2)).2.1 0 6)) n 4 ((vR (vR (vR (vR (vW v 3 (nI n + 1)) n 0 (nI i)) n 1 ((vR (vW v 3 (nI n + 1)) n 0 (nI i)).2.1 i 5)) n 2 ((vR (vR (vW v 3 (nI n + 1)) n 0 (nI i)) n 1 ((vR (vW v 3 (nI n + 1)) n 0 (nI i)).2.1 i 5)).1 2)) n 3 ((vR (vR (vR (vW v 3 (nI n + 1)) n 0 (nI i)) n 1 ((vR (vW v 3 (nI n + 1)) n 0 (nI i)).2.1 i 5)) n 2 ((vR (vR (vW v 3 (nI n + 1)) n 0 (nI i)) n 1 ((vR (vW v 3 (nI n + 1)) n 0 (nI i)).2.1 i 5)).1 2)).2.1 0 6)).2.1 i 3)) n) n (n + 1)).2.1 i 5)) (As := [.int ((rmvC (heaC (vR (vR (vR (vR (vR (vW v 3 (nI n + 1)) n 0 (nI i)) n 1 ((vR (vW v 3 (nI n + 1)) n 0 (nI i)).2.1 i 5)) n 2 ((vR (vR (vW v 3 (nI n + 1)) n 0 (nI i)) n 1 ((vR (vW v 3 (nI n + 1)) n 0 (nI i)).2.1 i 5)).1 2)) n 3 ((vR (vR (vR (vW v 3 (nI n + 1)) n 0 (nI i)) n 1 ((vR (vW v 3 (nI n + 1)) n 0 (nI i)).2.1 i 5)) n 2 ((vR (vR (vW v 3 (nI n + 1)) n 0 (nI i)) n 1 ((vR (vW v 3 (nI n + 1)) n 0 (nI i)).2.1 i 5)).1 2)).2.1 0 6)) n 4 ((vR (vR (vR (vR (vW v 3 (nI n + 1)) n 0 (nI i)) n 1 ((vR (vW v 3 (nI n + 1)) n 0 (nI i)).2.1 i 5)) n 2 ((vR (vR (vW v 3 (nI n + 1)) n 0 (nI i)) n 1 ((vR (vW v 3 (nI n + 1)) n 0 (nI i)).2.1 i 5)).1 2)) n 3 ((vR (vR (vR (vW v 3 (nI n + 1)) n 0 (nI i)) n 1 ((vR (vW v 3 (nI n + 1)) n 0 (nI i)).2.1 i 5)) n 2 ((vR (vR (vW v 3 (nI n + 1)) n 0 (nI i)) n 1 ((vR (vW v 3 (nI n + 1)) n 0 (nI i)).2.1 i 5)).1 2)).2.1 0 6)).2.1 i 3)) n) n (n + 1)).2.1 i 5)]) (rest := []) ⟨hx, hb, hml, hown, ht⟩ (k_X6_wheelAt l g A M b _ (rmvC (heaC (vR (vR (vR (vR (vR (vW v 3 (nI n + 1)) n 0 (nI i)) n 1 ((vR (vW v 3 (nI n + 1)) n 0 (nI i)).2.1 i 5)) n 2 ((vR (vR (vW v 3 (nI n + 1)) n 0 (nI i)) n 1 ((vR (vW v 3 (nI n + 1)) n 0 (nI i)).2.1 i 5)).1 2)) n 3 ((vR (vR (vR (vW v 3 (nI n + 1)) n 0 (nI i)) n 1 ((vR (vW v 3 (nI n + 1)) n 0 (nI i)).2.1 i 5)) n 2 ((vR (vR (vW v 3 (nI n + 1)) n 0 (nI i)) n 1 ((vR (vW v 3 (nI n + 1)) n 0 (nI i)).2.1 i 5)).1 2)).2.1 0 6)) n 4 ((vR (vR (vR (vR (vW v 3 (nI n + 1)) n 0 (nI i)) n 1 ((vR (vW v 3 (nI n + 1)) n 0 (nI i)).2.1 i 5)) n 2 ((vR (vR (vW v 3 (nI n + 1)) n 0 (nI i)) n 1 ((vR (vW v 3 (nI n + 1)) n 0 (nI i)).2.1 i 5)).1 2)) n 3 ((vR (vR (vR (vW v 3 (nI n + 1)) n 0 (nI i)) n 1 ((vR (vW v 3 (nI n + 1)) n 0 (nI i)).2.1 i 5)) n 2 ((vR (vR (vW v 3 (nI n + 1)) n 0 (nI i)) n 1 ((vR (vW v 3 (nI n + 1)) n 0 (nI i)).2.1 i 5)).1 2)).2.1 0 6)).2.1 i 3)) n) n (n + 1)) ((rmvC (heaC (vR (vR (vR (vR (vR (vW v 3 (nI n + 1)) n 0 (nI i)) n 1 ((vR (vW v 3 (nI n + 1)) n 0 (nI i)).2.1 i 5)) n 2 ((vR (vR (vW v 3 (nI n + 1)) n 0 (nI i)) n 1 ((vR (vW v 3 (nI n + 1)) n 0 (nI i)).2.1 i 5)).1 2)) n 3 ((vR (vR (vR (vW v 3 (nI n + 1)) n 0 (nI i)) n 1 ((vR (vW v 3 (nI n + 1)) n 0 (nI i)).2.1 i 5)) n 2 ((vR (vR (vW v 3 (nI n + 1)) n 0 (nI i)) n 1 ((vR (vW v 3 (nI n + 1)) n 0 (nI i)).2.1 i 5)).1 2)).2.1 0 6)) n 4 ((vR (vR (vR (vR (vW v 3 (nI n + 1)) n 0 (nI i)) n 1 ((vR (vW v 3 (nI n + 1)) n 0 (nI i)).2.1 i 5)) n 2 ((vR (vR (vW v 3 (nI n + 1)) n 0 (nI i)) n 1 ((vR (vW v 3 (nI n + 1)) n 0 (nI i)).2.1 i 5)).1 2)) n 3 ((vR (vR (vR (vW v 3 (nI n + 1)) n 0 (nI i)) n 1 ((vR (vW v 3 (nI n + 1)) n 0 (nI i)).2.1 i 5)) n 2 ((vR (vR (vW v 3 (nI n + 1)) n 0 (nI i)) n 1 ((vR (vW v 3 (nI n + 1)) n 0 (nI i)).2.1 i 5)).1 2)).2.1 0 6)).2.1 i 3)) n) n (n + 1)).2.1 i 5) hR) (cwV 1 ht (gU uw_376 uw_377 uw_378 uw_35 uw_379) rfl rfl rfl (by decide +kernel) ⟨by decide, by decide⟩) hK hM hS (m_recv hK hM hR.AW hR.W rfl) rfl hl.1 rfl (Nat.le_of_ble_eq_true rfl) dX6_sendRunner_94 ⟨by decide, by decide⟩ (fun H locs hM hS => ?_)
      subst hQ
      exact m_zret hx hb hr (rfl) hlk hK hM hS dX6_sendRunner_97 (⟨fun _ => sen_a c_71 hR hF, fun q => absurd hlt q⟩)
  · refine lv_aload_n hx hb dX6_sendRunner_0 rfl (lv_at hl 0 rfl) ?_
    refine lv_iload_n hx hb dX6_sendRunner_1 rfl (lv_at hl 1 rfl) ?_
    refine m_callRQ (val := some (b + 3 + 2 * i)) (w := .ref (b + 3 + 2 * i)) (rfl) (As := [.int (nI i)]) (rest := []) ⟨hx, hb, hml, hown, ht⟩ (k_X6_gaugeAt l g A M b π v (nI i) (some i) hR (gxn_in hi (by decide))) (cwV 1 ht (gU uw_336 uw_337 uw_338 uw_35 uw_339) rfl rfl rfl (by decide +kernel) ⟨by decide, by decide⟩) hK hM hS (m_recv hK hM hR.AW hR.W rfl) rfl hl.1 rfl (Nat.le_of_ble_eq_true rfl) dX6_sendRunner_2 ⟨by decide, by decide⟩ (fun H locs hM hS => ?_)
    refine lv_astore_n (lv' := [(2, .ref (b + 3 + 2 * i)), (0, .ref (b)), (1, .int (nI i))]) hx hb dX6_sendRunner_5 rfl hl (by decide) rfl (fun ls hl => ?_)
    refine lv_aload_n hx hb dX6_sendRunner_6 rfl (lv_at hl 0 rfl) ?_
    refine lv_ifnonnull (tgt := 13) hx hb dX6_sendRunner_7 (by decide) ?_
    refine lv_aload_n hx hb dX6_sendRunner_13 rfl (lv_at hl 1 rfl) ?_
    refine m_callQ (As := []) (rest := []) ⟨hx, hb, hml, hown, ht⟩ (k_X6_addRunner l g A M b π v hR n hn hn20) (cwV 0 ht (gU uw_409 uw_411 uw_6 uw_35 uw_412) rfl rfl rfl (by decide +kernel) ⟨by decide, by decide⟩) hK hM hS (m_recv hK hM hR.AW hR.W rfl) rfl hl.1 rfl (Nat.le_of_ble_eq_true rfl) dX6_sendRunner_14 ⟨by decide, by decide⟩ (fun r9 M H locs hp hM hS => ?_)
    obtain ⟨e9, e8⟩ := hp.2 hlt
    subst e9
    rw [e8] at hM
    refine lv_astore_nN (lv' := [(3, .null), (2, .ref (b + 3 + 2 * i)), (0, .ref (b)), (1, .int (nI i))]) hx hb dX6_sendRunner_17 rfl hl (by decide) rfl (fun ls hl => ?_)
    refine lv_aload_nN hx hb dX6_sendRunner_18 rfl (lv_at hl 0 rfl) ?_
    refine lv_ifnonnullN hx hb dX6_sendRunner_19 ?_
    refine lv_ldc (v := (-1000004)) hx hb hown (ht _ uw_413) dX6_sendRunner_22 ?_
    subst hQ
    exact m_zret hx hb hr (rfl) hlk hK hM hS dX6_sendRunner_24 (⟨fun q => absurd q hlt, fun _ => ⟨rfl, hMM⟩⟩)

set_option maxHeartbeats 4000000 in
set_option maxRecDepth 100000 in
/-- one more who carries the same, an hour behind -/
theorem k_X6_addSecondOf (l : Launch) (g : GG) (A : Nat → Prop) (M0 : MM) (b : Nat) (π : Nat → Nat) (v : VV) (j : Nat) (hR : RepV g A M0 b π v) (n : Nat) (hn : v.1 3 = nI n) (hlt : n < 20) (hj : j < 20) : Met l yX6_addSecondOf (Uw yX6_addSecondOf cX6_addSecondOf 3 (Option.none : Option ClassFile.FieldType)) (rmD 1) (PreM [.ref (b), .ref (b + 15 + π j)] g A M0) (PosV (fun M1 => RepV g A M1 b π (twiC v j n) ∧ FrV b M0 M1) g A) 0 0 A := by
  refine mk_Met (own := RX6) rfl rfl (by decide) (Nat.le_of_ble_eq_true rfl) ?_
  intro p e s m below meth c ls aa Q haa hQ hx hb hr hlk hml hown hts hK hM hS hl hnm
  obtain ⟨M, hMM⟩ : ∃ M, M = M0 := ⟨_, rfl⟩
  rw [← hMM] at hM hR
  have ht : ∀ w ∈ lw_good, w.before _ s = true := fun w h => hts w (List.mem_cons_of_mem _ h)
  have hF : FrV b M0 M := by rw [hMM]; exact FrV.rf
  have hl : lv_has ls 3 [(0, .ref (b)), (1, .ref (b + 15 + π j))] := hl
  have hn20 : n ≤ 20 := by omega
  refine lv_aload_n hx hb dX6_addSecondOf_0 rfl (lv_at hl 0 rfl) ?_
  refine m_callQ (As := []) (rest := []) ⟨hx, hb, hml, hown, ht⟩ (k_X6_addRunner l g A M b π v hR n hn hn20) (cwV 0 ht (gU uw_409 uw_411 uw_6 uw_35 uw_412) rfl rfl rfl (by decide +kernel) ⟨by decide, by decide⟩) hK hM hS (m_recv hK hM hR.AW hR.W rfl) rfl hl.1 rfl (Nat.le_of_ble_eq_true rfl) dX6_addSecondOf_1 ⟨by decide, by decide⟩ (fun r9 M H locs hp hM hS => ?_)
  obtain ⟨e9, hR, hF1⟩ := hp.1 hlt
  subst e9
  have hF := hF.tr hF1
  refine lv_astore_n (lv' := [(2, .ref (b + 15 + π n)), (0, .ref (b)), (1, .ref (b + 15 + π j))]) hx hb dX6_addSecondOf_4 rfl hl (by decide) rfl (fun ls hl => ?_)
  refine lv_aload_n hx hb dX6_addSecondOf_5 rfl (lv_at hl 0 rfl) ?_
  refine lv_ifnull hx hb dX6_addSecondOf_6 ?_
  refine lv_aload_n hx hb dX6_addSecondOf_9 rfl (lv_at hl 0 rfl) ?_
  refine lv_aload_n hx hb dX6_addSecondOf_10 rfl (lv_at hl 2 rfl) ?_
  refine m_callV (As := [.ref (b + 15 + π j)]) (rest := []) ⟨hx, hb, hml, hown, ht⟩ (k_X5_copyFrom_2 l g A M b π (vW v 3 (nI n + 1)) n j hR hlt hj) (cwV 1 ht (gU uw_324 uw_325 uw_326 uw_38 uw_327) rfl rfl rfl (by decide +kernel) ⟨by decide, by decide⟩) hK hM hS (m_recv hK hM (hR.AR hlt) (hR.R hlt) rfl) rfl hl.1 rfl (Nat.le_of_ble_eq_true rfl) dX6_addSecondOf_11 ⟨by decide, by decide⟩ (fun M H locs hp hM hS => ?_)
  obtain ⟨hR, hF1⟩ := hp
  have hF := hF.tr hF1
  refine lv_aload_n hx hb dX6_addSecondOf_14 rfl (lv_at hl 0 rfl) ?_
  refine lv_dup hx hb dX6_addSecondOf_15 rfl ?_
  refine rv_getR hx hb ht ui_X5 hown hK hM hR hlt 4 (by decide) (ht _ uw_175) dX6_addSecondOf_16 ?_
  refine lv_iconst (v := nI 1) hx hb dX6_addSecondOf_19 (by first | rfl | decide) ?_
  refine lv_iadd hx hb dX6_addSecondOf_20 ?_
  refine rv_putR hx hb ht ui_X5 hown hK hM hS hR hF hlt 4 (by decide) (ht _ uw_175) dX6_addSecondOf_21 (fun M H locs hM hR hF hS => ?_)
  subst hQ
  exact m_vret hx hb hr hlk hK hM hS dX6_addSecondOf_24 (⟨RepV.eq hR rfl, hF⟩)

set_option maxHeartbeats 4000000 in
set_option maxRecDepth 100000 in
/-- a valley takes over another -/
theorem k_X6_copyFrom (l : Launch) (g : GG) (A : Nat → Prop) (M0 : MM) (b : Nat) (π : Nat → Nat) (v : VV) (b2 : Nat) (π2 : Nat → Nat) (w : VV) (n : Nat) (hR : RepV g A M0 b π v) (hO : RepV g A M0 b2 π2 w) (hd : b2 + 35 ≤ b ∨ b + 35 ≤ b2) (hn : w.1 3 = nI n) (hn20 : n ≤ 20) : Met l yX6_copyFrom (Uw yX6_copyFrom cX6_copyFrom 3 (Option.none : Option ClassFile.FieldType)) (rmD 2) (PreM [.ref (b), .ref (b2)] g A M0) (PosV (fun M1 => RepV g A M1 b π (cpyC v w n) ∧ FrV b M0 M1) g A) 0 0 A := by
  refine mk_Met (own := RX6) rfl rfl (by decide) (Nat.le_of_ble_eq_true rfl) ?_
  intro p e s m below meth c ls aa Q haa hQ hx hb hr hlk hml hown hts hK hM hS hl hnm
  obtain ⟨M, hMM⟩ : ∃ M, M = M0 := ⟨_, rfl⟩
  rw [← hMM] at hM hR
  have ht : ∀ w ∈ lw_good, w.before _ s = true := fun w h => hts w (List.mem_cons_of_mem _ h)
  have hF : FrV b M0 M := by rw [hMM]; exact FrV.rf
  have hl : lv_has ls 3 [(0, .ref (b)), (1, .ref (b2))] := hl
  refine lv_aload_n hx hb dX6_copyFrom_0 rfl (lv_at hl 0 rfl) ?_
  refine lv_aload_n hx hb dX6_copyFrom_1 rfl (lv_at hl 1 rfl) ?_
  refine rv_getW hx hb ht ui_X6 hown hK hM (hO.fr hF hd) 0 (by decide) (ht _ uw_188) dX6_copyFrom_2 ?_
  refine rv_putW hx hb ht ui_X6 hown hK hM hS hR hF 0 (by decide) (ht _ uw_188) dX6_copyFrom_5 (fun M H locs hM hR hF hS => ?_)
  refine lv_aload_n hx hb dX6_copyFrom_8 rfl (lv_at hl 0 rfl) ?_
  refine lv_aload_n hx hb dX6_copyFrom_9 rfl (lv_at hl 1 rfl) ?_
  refine rv_getW hx hb ht ui_X6 hown hK hM (hO.fr hF hd) 1 (by decide) (ht _ uw_190) dX6_copyFrom_10 ?_
  refine rv_putW hx hb ht ui_X6 hown hK hM hS hR hF 1 (by decide) (ht _ uw_190) dX6_copyFrom_13 (fun M H locs hM hR hF hS => ?_)
  refine lv_aload_n hx hb dX6_copyFrom_16 rfl (lv_at hl 0 rfl) ?_
  refine lv_aload_n hx hb dX6_copyFrom_17 rfl (lv_at hl 1 rfl) ?_
  refine rv_getW hx hb ht ui_X6 hown hK hM (hO.fr hF hd) 2 (by decide) (ht _ uw_192) dX6_copyFrom_18 ?_
  refine rv_putW hx hb ht ui_X6 hown hK hM hS hR hF 2 (by decide) (ht _ uw_192) dX6_copyFrom_21 (fun M H locs hM hR hF hS => ?_)
  refine lv_aload_n hx hb dX6_copyFrom_24 rfl (lv_at hl 0 rfl) ?_
  refine lv_aload_n hx hb dX6_copyFrom_25 rfl (lv_at hl 1 rfl) ?_
  refine rv_getW hx hb ht ui_X6 hown hK hM (hO.fr hF hd) 3 (by decide) (ht _ uw_194) dX6_copyFrom_26 ?_
  refine rv_putW hx hb ht ui_X6 hown hK hM hS hR hF 3 (by decide) (ht _ uw_194) dX6_copyFrom_29 (fun M H locs hM hR hF hS => ?_)
  refine lv_iconst (v := nI 0) hx hb dX6_copyFrom_32 (by first | rfl | decide) ?_
  refine lv_istore_n (lv' := [(2, .int (nI 0)), (0, .ref (b)), (1, .ref (b2))]) hx hb dX6_copyFrom_33 rfl hl (by decide) rfl (fun ls hl => ?_)
  have loop_34 : ∀ (z_34 : Nat) (i : Nat) (M : MM) (H : Heap) (locs : List Loc) (ls : Array Slot), 6 - i < z_34 → i ≤ 6 → HD g A M H → RepV g A M b π ((cpW v.1 w.1, mixN cpG i v.2.1 w.2.1, v.2.2) : VV) → FrV b M0 M → va_S A s.heap H locs → lv_has ls 3 [(2, .int (nI i)), (0, .ref (b)), (1, .ref (b2))] → W p l e (rmD 2) s m aa below meth c H locs 0 0 Q (F0 m 34 ls []) := by
    intro z_34
    induction z_34 with
    | zero => intro i M H locs ls hz hi; exact absurd hz (Nat.not_lt_zero _)
    | succ z_34 ih_34 =>
    intro i M H locs ls hz hi hM hR hF hS hl
    refine lv_iload_n hx hb dX6_copyFrom_34 rfl (lv_at hl 0 rfl) ?_
    refine lv_bipush (v := nI 6) hx hb dX6_copyFrom_35 (by first | rfl | decide) ?_
    refine lv_icmp_ge (tgt := 61) hx hb dX6_copyFrom_37 (by decide) (fun c_37 => ?_) (fun c_37 => ?_)
    · have hi6 : i = 6 := Nat.le_antisymm hi (nI_le_of (by omega) (by decide) c_37)
      subst hi6
      refine lv_iconst (v := nI 0) hx hb dX6_copyFrom_61 (by first | rfl | decide) ?_
      refine lv_istore_n (lv' := [(2, .int (nI 0)), (0, .ref (b)), (1, .ref (b2))]) hx hb dX6_copyFrom_62 rfl hl (by decide) rfl (fun ls hl => ?_)
      have loop_63 : ∀ (z_63 : Nat) (j : Nat) (M : MM) (H : Heap) (locs : List Loc) (ls : Array Slot), n - j < z_63 → j ≤ n → HD g A M H → RepV g A M b π ((cpW v.1 w.1, mixN cpG 6 v.2.1 w.2.1, mixN cpR j v.2.2 w.2.2) : VV) → FrV b M0 M → va_S A s.heap H locs → lv_has ls 3 [(2, .int (nI j)), (0, .ref (b)), (1, .ref (b2))] → W p l e (rmD 2) s m aa below meth c H locs 0 0 Q (F0 m 63 ls []) := by
        intro z_63
        induction z_63 with
        | zero => intro j M H locs ls hz hj; exact absurd hz (Nat.not_lt_zero _)
        | succ z_63 ih_63 =>
        intro j M H locs ls hz hj hM hR hF hS hl
        have e3 : ((cpW v.1 w.1, mixN cpG 6 v.2.1 w.2.1, mixN cpR j v.2.2 w.2.2) : VV).1 3 = nI n := by rw [← hn]; rfl
        refine lv_iload_n hx hb dX6_copyFrom_63 rfl (lv_at hl 0 rfl) ?_
        refine lv_aload_n hx hb dX6_copyFrom_64 rfl (lv_at hl 1 rfl) ?_
        refine rv_getW hx hb ht ui_X6 hown hK hM hR 3 (by decide) (ht _ uw_194) dX6_copyFrom_65 ?_
        refine lv_icmp_ge (tgt := 98) hx hb dX6_copyFrom_68 (by decide) (fun c_68 => ?_) (fun c_68 => ?_)
        · rw [e3] at c_68
          have hjn : j = n := Nat.le_antisymm hj (nI_le_of (by omega) (by omega) c_68)
          subst hjn
          subst hQ
          exact m_vret hx hb hr hlk hK hM hS dX6_copyFrom_98 (⟨hR, hF⟩)
        · rw [e3] at c_68
          have hjn : j < n := nI_lt_of (by omega) (by omega) c_68
          refine lv_iload_n hx hb dX6_copyFrom_71 rfl (lv_at hl 0 rfl) ?_
          refine lv_bipush (v := nI 20) hx hb dX6_copyFrom_72 (by first | rfl | decide) ?_
          refine lv_icmp_ge (tgt := 98) hx hb dX6_copyFrom_74 (by decide) (fun c_74 => absurd c_74 (nI_ge (show j < 20 by omega) (by decide))) (fun c_74 => ?_)
          refine lv_aload_n hx hb dX6_copyFrom_77 rfl (lv_at hl 1 rfl) ?_
          refine rv_getra hx hb ht ui_X6 hown hK hM hR (ht _ uw_198) dX6_copyFrom_78 ?_
          refine lv_iload_n hx hb dX6_copyFrom_81 rfl (lv_at hl 0 rfl) ?_
          refine rv_aldR hx hb hK hM hR (show j < 20 by omega) dX6_copyFrom_82 ?_
          refine lv_aload_n hx hb dX6_copyFrom_83 rfl (lv_at hl 2 rfl) ?_
          refine rv_getra hx hb ht ui_X6 hown hK hM (hO.fr hF hd) (ht _ uw_198) dX6_copyFrom_84 ?_
          refine lv_iload_n hx hb dX6_copyFrom_87 rfl (lv_at hl 0 rfl) ?_
          refine rv_aldR hx hb hK hM (hO.fr hF hd) (show j < 20 by omega) dX6_copyFrom_88 ?_
          refine m_callV (As := [.ref (b2 + 15 + π2 j)]) (rest := []) ⟨hx, hb, hml, hown, ht⟩ (k_X5_copyFrom l g A M b π ((cpW v.1 w.1, mixN cpG 6 v.2.1 w.2.1, mixN cpR j v.2.2 w.2.2) : VV) j b2 π2 w hR (hO.fr hF hd) hd (show j < 20 by omega)) (cwV 1 ht (gU uw_324 uw_325 uw_326 uw_38 uw_327) rfl rfl rfl (by decide +kernel) ⟨by decide, by decide⟩) hK hM hS (m_recv hK hM (hR.AR (show j < 20 by omega)) (hR.R (show j < 20 by omega)) rfl) rfl hl.1 rfl (Nat.le_of_ble_eq_true rfl) dX6_copyFrom_89 ⟨by decide, by decide⟩ (fun M H locs hp hM hS => ?_)
          obtain ⟨hR, hF1⟩ := hp
          have hF := hF.tr hF1
          refine lv_iinc (v := nI (j + 1)) (lv' := [(2, .int (nI (j + 1))), (0, .ref (b)), (1, .ref (b2))]) hx hb dX6_copyFrom_92 hl (k := 0) rfl (nI_1 _) (by decide) rfl (fun ls hl => ?_)
          refine lv_goto (tgt := 63) hx hb dX6_copyFrom_95 (by decide) ?_
          exact ih_63 (j + 1) _ _ _ _ (by omega) (by omega) hM (RepV.eq hR (by rw [mixN_up cpR j])) hF hS (lv_sub hl [0, 1, 2] rfl)
      exact loop_63 _ 0 _ _ _ _ (Nat.lt_succ_self _) (by omega) hM (RepV.eq hR (by rw [mixN_0])) hF hS (lv_sub hl [0, 1, 2] rfl)
    · have hi6 : i < 6 := nI_lt_of (by omega) (by decide) c_37
      refine lv_aload_n hx hb dX6_copyFrom_40 rfl (lv_at hl 1 rfl) ?_
      refine rv_getga hx hb ht ui_X6 hown hK hM hR (ht _ uw_196) dX6_copyFrom_41 ?_
      refine lv_iload_n hx hb dX6_copyFrom_44 rfl (lv_at hl 0 rfl) ?_
      refine rv_aldG hx hb hK hM hR (hi6) dX6_copyFrom_45 ?_
      refine lv_aload_n hx hb dX6_copyFrom_46 rfl (lv_at hl 2 rfl) ?_
      refine rv_getga hx hb ht ui_X6 hown hK hM (hO.fr hF hd) (ht _ uw_196) dX6_copyFrom_47 ?_
      refine lv_iload_n hx hb dX6_copyFrom_50 rfl (lv_at hl 0 rfl) ?_
      refine rv_aldG hx hb hK hM (hO.fr hF hd) (hi6) dX6_copyFrom_51 ?_
      refine m_callV (As := [.ref (b2 + 3 + 2 * i)]) (rest := []) ⟨hx, hb, hml, hown, ht⟩ (k_X0_copyFrom l g A M b π ((cpW v.1 w.1, mixN cpG i v.2.1 w.2.1, v.2.2) : VV) i b2 π2 w hR (hO.fr hF hd) hd hi6) (cwV 1 ht (gU uw_316 uw_317 uw_318 uw_36 uw_319) rfl rfl rfl (by decide +kernel) ⟨by decide, by decide⟩) hK hM hS (m_recv hK hM (hR.AG hi6) (hR.G hi6) rfl) rfl hl.1 rfl (Nat.le_of_ble_eq_true rfl) dX6_copyFrom_52 ⟨by decide, by decide⟩ (fun M H locs hp hM hS => ?_)
      obtain ⟨hR, hF1⟩ := hp
      have hF := hF.tr hF1
      refine lv_iinc (v := nI (i + 1)) (lv' := [(2, .int (nI (i + 1))), (0, .ref (b)), (1, .ref (b2))]) hx hb dX6_copyFrom_55 hl (k := 0) rfl (nI_1 _) (by decide) rfl (fun ls hl => ?_)
      refine lv_goto (tgt := 34) hx hb dX6_copyFrom_58 (by decide) ?_
      exact ih_34 (i + 1) _ _ _ _ (by omega) (by omega) hM (RepV.eq hR (by rw [mixN_up cpG i])) hF hS (lv_sub hl [0, 1, 2] rfl)
  exact loop_34 _ 0 _ _ _ _ (Nat.lt_succ_self _) (by omega) hM (RepV.eq hR (by rw [cpW_eq, mixN_0])) hF hS (lv_sub hl [0, 1, 2] rfl)

set_option maxHeartbeats 4000000 in
set_option maxRecDepth 100000 in
/-- hours of rain pass -/
theorem k_X6_passHours (l : Launch) (g : GG) (A : Nat → Prop) (M0 : MM) (b : Nat) (π : Nat → Nat) (v : VV) (am : Int32) (N : Nat) (hR : RepV g A M0 b π v) (hon : OnW v) (hN : N < 2 ^ 31) : Met l yX6_passHours (Uw yX6_passHours cX6_passHours 9 (Option.some ClassFile.FieldType.int)) (rmD 4) (PreM [.ref (b), .int (am), .int (nI N)] g A M0) (PosI (fun r M1 => r = pasT am v N ∧ EV g A M1 b (pasC am v N) ∧ FrV b M0 M1) g A) 0 0 A := by
  refine mk_Met (own := RX6) rfl rfl (by decide) (Nat.le_of_ble_eq_true rfl) ?_
  intro p e s m below meth c ls aa Q haa hQ hx hb hr hlk hml hown hts hK hM hS hl hnm
  obtain ⟨M, hMM⟩ : ∃ M, M = M0 := ⟨_, rfl⟩
  rw [← hMM] at hM hR
  have ht : ∀ w ∈ lw_good, w.before _ s = true := fun w h => hts w (List.mem_cons_of_mem _ h)
  have hF : FrV b M0 M := by rw [hMM]; exact FrV.rf
  have hl : lv_has ls 9 [(0, .ref (b)), (1, .int (am)), (2, .int (nI N))] := hl
  refine lv_iconst (v := nI 0) hx hb dX6_passHours_0 (by first | rfl | decide) ?_
  refine lv_istore_n (lv' := [(3, .int (nI 0)), (0, .ref (b)), (1, .int (am)), (2, .int (nI N))]) hx hb dX6_passHours_1 rfl hl (by decide) rfl (fun ls hl => ?_)
  refine lv_iconst (v := nI 0) hx hb dX6_passHours_2 (by first | rfl | decide) ?_
  refine lv_istore (lv' := [(4, .int (nI 0)), (3, .int (nI 0)), (0, .ref (b)), (1, .int (am)), (2, .int (nI N))]) hx hb dX6_passHours_3 hl (by decide) rfl (fun ls hl => ?_)
  have loop_5 : ∀ (z_5 : Nat) (q : Nat) (t : Int32) (π : Nat → Nat) (M : MM) (H : Heap) (locs : List Loc) (ls : Array Slot), N - q < z_5 → q ≤ N → t = pasT am v q → HD g A M H → RepV g A M b π (pasC am v q) → FrV b M0 M → va_S A s.heap H locs → lv_has ls 9 [(4, .int (nI q)), (3, .int (t)), (0, .ref (b)), (1, .int (am)), (2, .int (nI N))] → W p l e (rmD 4) s m aa below meth c H locs 0 0 Q (F0 m 5 ls []) := by
    intro z_5
    induction z_5 with
    | zero => intro q t π M H locs ls hz hq ht1; exact absurd hz (Nat.not_lt_zero _)
    | succ z_5 ih_5 =>
    intro q t π M H locs ls hz hq ht1 hM hR hF hS hl
    refine lv_iload hx hb dX6_passHours_5 (lv_at hl 0 rfl) ?_
    refine lv_iload_n hx hb dX6_passHours_7 rfl (lv_at hl 4 rfl) ?_
    refine lv_icmp_ge (tgt := 74) hx hb dX6_passHours_8 (by decide) (fun c_8 => ?_) (fun c_8 => ?_)
    · have hqN : q = N := Nat.le_antisymm hq (nI_le_of (by omega) (by omega) c_8)
      subst hqN
      refine lv_iload_n hx hb dX6_passHours_74 rfl (lv_at hl 1 rfl) ?_
      subst hQ
      exact m_zret hx hb hr (rfl) hlk hK hM hS dX6_passHours_75 (⟨ht1, ⟨π, hR⟩, hF⟩)
    · have hqN : q < N := nI_lt_of (by omega) (by omega) c_8
      refine lv_aload_n hx hb dX6_passHours_11 rfl (lv_at hl 2 rfl) ?_
      refine rv_getga hx hb ht ui_X6 hown hK hM hR (ht _ uw_196) dX6_passHours_12 ?_
      refine lv_astore (lv' := [(5, .ref (b + 1)), (4, .int (nI q)), (3, .int (t)), (0, .ref (b)), (1, .int (am)), (2, .int (nI N))]) hx hb dX6_passHours_15 hl (by decide) rfl (fun ls hl => ?_)
      refine lv_aload hx hb dX6_passHours_17 (lv_at hl 0 rfl) ?_
      refine rv_lenG hx hb hK hM hR dX6_passHours_19 ?_
      refine lv_istore (lv' := [(6, .int (nI 6)), (5, .ref (b + 1)), (4, .int (nI q)), (3, .int (t)), (0, .ref (b)), (1, .int (am)), (2, .int (nI N))]) hx hb dX6_passHours_20 hl (by decide) rfl (fun ls hl => ?_)
      refine lv_iconst (v := nI 0) hx hb dX6_passHours_22 (by first | rfl | decide) ?_
      refine lv_istore (lv' := [(7, .int (nI 0)), (6, .int (nI 6)), (5, .ref (b + 1)), (4, .int (nI q)), (3, .int (t)), (0, .ref (b)), (1, .int (am)), (2, .int (nI N))]) hx hb dX6_passHours_23 hl (by decide) rfl (fun ls hl => ?_)
      have loop_25 : ∀ (z_25 : Nat) (i : Nat) (t2 : Int32) (M : MM) (H : Heap) (locs : List Loc) (ls : Array Slot), 6 - i < z_25 → i ≤ 6 → t2 = tisL am (pasC am v q) t i → HD g A M H → RepV g A M b π (catL am (pasC am v q) i) → FrV b M0 M → va_S A s.heap H locs → lv_has ls 9 [(7, .int (nI i)), (6, .int (nI 6)), (5, .ref (b + 1)), (3, .int (t2)), (4, .int (nI q)), (0, .ref (b)), (1, .int (am)), (2, .int (nI N))] → W p l e (rmD 4) s m aa below meth c H locs 0 0 Q (F0 m 25 ls []) := by
        intro z_25
        induction z_25 with
        | zero => intro i t2 M H locs ls hz2 hi ht2; exact absurd hz2 (Nat.not_lt_zero _)
        | succ z_25 ih_25 =>
        intro i t2 M H locs ls hz2 hi ht2 hM hR hF hS hl
        refine lv_iload hx hb dX6_passHours_25 (lv_at hl 0 rfl) ?_
        refine lv_iload hx hb dX6_passHours_27 (lv_at hl 1 rfl) ?_
        refine lv_icmp_ge (tgt := 54) hx hb dX6_passHours_29 (by decide) (fun c_29 => ?_) (fun c_29 => ?_)
        · have hi6 : i = 6 := Nat.le_antisymm hi (nI_le_of (by omega) (by decide) c_29)
          subst hi6
          obtain ⟨n, hn20, hn⟩ := pasC_on (am := am) hon q
          refine lv_aload_n hx hb dX6_passHours_54 rfl (lv_at hl 5 rfl) ?_
          refine lv_dup hx hb dX6_passHours_55 rfl ?_
          refine rv_getW hx hb ht ui_X6 hown hK hM hR 2 (by decide) (ht _ uw_192) dX6_passHours_56 ?_
          refine lv_iconst (v := nI 1) hx hb dX6_passHours_59 (by first | rfl | decide) ?_
          refine lv_iadd hx hb dX6_passHours_60 ?_
          refine rv_putW hx hb ht ui_X6 hown hK hM hS hR hF 2 (by decide) (ht _ uw_192) dX6_passHours_61 (fun M H locs hM hR hF hS => ?_)
          refine lv_aload_n hx hb dX6_passHours_64 rfl (lv_at hl 5 rfl) ?_
          refine m_callV (As := []) (rest := []) ⟨hx, hb, hml, hown, ht⟩ (k_X6_moveRunners l g A M b π (ho1C am (pasC am v q)) (RepV.eq hR rfl) n (by rw [ho1C_3]; exact hn) hn20) (cwV 0 ht (gU uw_364 uw_366 uw_1 uw_35 uw_367) rfl rfl rfl (by decide +kernel) ⟨by decide, by decide⟩) hK hM hS (m_recv hK hM hR.AW hR.W rfl) rfl hl.1 rfl (Nat.le_of_ble_eq_true rfl) dX6_passHours_65 ⟨by decide, by decide⟩ (fun M H locs hp hM hS => ?_)
          obtain ⟨⟨π, hR⟩, hF1⟩ := hp
          have hF := hF.tr hF1
          have hR : RepV g A M b π (pasC am v (q + 1)) := RepV.eq hR (by show movC ((pasC am v q).1 3).toNatClampNeg 0 _ = _; rw [hn, nI_clamp (by omega)])
          refine lv_iinc (v := nI (q + 1)) (lv' := [(4, .int (nI (q + 1))), (7, .int (nI 6)), (6, .int (nI 6)), (5, .ref (b + 1)), (3, .int (t2)), (0, .ref (b)), (1, .int (am)), (2, .int (nI N))]) hx hb dX6_passHours_68 hl (k := 4) rfl (nI_1 _) (by decide) rfl (fun ls hl => ?_)
          refine lv_goto (tgt := 5) hx hb dX6_passHours_71 (by decide) ?_
          exact ih_5 (q + 1) t2 _ _ _ _ _ (by omega) (by omega) (by rw [ht2, ht1]; rfl) hM hR hF hS (lv_sub hl [0, 4, 5, 6, 7] rfl)
        · have hi6 : i < 6 := nI_lt_of (by omega) (by decide) c_29
          refine lv_aload hx hb dX6_passHours_32 (lv_at hl 2 rfl) ?_
          refine lv_iload hx hb dX6_passHours_34 (lv_at hl 0 rfl) ?_
          refine rv_aldG hx hb hK hM hR (hi6) dX6_passHours_36 ?_
          refine lv_astore (lv' := [(8, .ref (b + 3 + 2 * i)), (7, .int (nI i)), (6, .int (nI 6)), (5, .ref (b + 1)), (3, .int (t2)), (4, .int (nI q)), (0, .ref (b)), (1, .int (am)), (2, .int (nI N))]) hx hb dX6_passHours_37 hl (by decide) rfl (fun ls hl => ?_)
          refine lv_iload_n hx hb dX6_passHours_39 rfl (lv_at hl 4 rfl) ?_
          refine lv_aload hx hb dX6_passHours_40 (lv_at hl 0 rfl) ?_
          refine lv_iload_n hx hb dX6_passHours_42 rfl (lv_at hl 7 rfl) ?_
          refine m_callI (As := [.int (am)]) (rest := [.int (t2)]) ⟨hx, hb, hml, hown, ht⟩ (k_X0_catchRain l g A M b π (catL am (pasC am v q) i) i am hR hi6) (cwV 1 ht (gU uw_360 uw_361 uw_362 uw_36 uw_363) rfl rfl rfl (by decide +kernel) ⟨by decide, by decide⟩) hK hM hS (m_recv hK hM (hR.AG hi6) (hR.G hi6) rfl) rfl hl.1 rfl (Nat.le_of_ble_eq_true rfl) dX6_passHours_43 ⟨by decide, by decide⟩ (fun r9 M H locs hp hM hS => ?_)
          obtain ⟨e9, hR, hF1⟩ := hp
          subst e9
          have hF := hF.tr hF1
          refine lv_iadd hx hb dX6_passHours_46 ?_
          refine lv_istore_n (lv' := [(3, .int ((t2) + (tipC (catL am (pasC am v q) i) i am))), (8, .ref (b + 3 + 2 * i)), (7, .int (nI i)), (6, .int (nI 6)), (5, .ref (b + 1)), (4, .int (nI q)), (0, .ref (b)), (1, .int (am)), (2, .int (nI N))]) hx hb dX6_passHours_47 rfl hl (by decide) rfl (fun ls hl => ?_)
          refine lv_iinc (v := nI (i + 1)) (lv' := [(7, .int (nI (i + 1))), (3, .int ((t2) + (tipC (catL am (pasC am v q) i) i am))), (8, .ref (b + 3 + 2 * i)), (6, .int (nI 6)), (5, .ref (b + 1)), (4, .int (nI q)), (0, .ref (b)), (1, .int (am)), (2, .int (nI N))]) hx hb dX6_passHours_48 hl (k := 2) rfl (nI_1 _) (by decide) rfl (fun ls hl => ?_)
          refine lv_goto (tgt := 25) hx hb dX6_passHours_51 (by decide) ?_
          exact ih_25 (i + 1) ((t2) + (tipC (catL am (pasC am v q) i) i am)) _ _ _ _ (by omega) (by omega) (by rw [ht2]; rfl) hM hR hF hS (lv_sub hl [0, 3, 4, 1, 5, 6, 7, 8] rfl)
      exact loop_25 _ 0 t _ _ _ _ (Nat.lt_succ_self _) (by omega) rfl hM hR hF hS (lv_sub hl [0, 1, 2, 4, 3, 5, 6, 7] rfl)
  exact loop_5 _ 0 0 π _ _ _ _ (Nat.lt_succ_self _) (Nat.zero_le _) rfl hM hR hF hS (lv_sub hl [0, 1, 2, 3, 4] rfl)

