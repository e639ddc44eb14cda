theorem codM_C (x : Int64) (q : Int32) : codM x q = codC x q := by
  unfold codM codC
  rw [Int64.toInt32_and]
  rfl
abbrev NSs (ns ns1 : Nat → Int32) (q : Nat) (w : Int32) : Prop := ns1 0 = ns 0 ∧ ns1 1 = ns 1 ∧ ns1 2 = nI q ∧ ns1 3 = w
theorem sg_out {f : Nat → Int32} {L q : Nat} (h : L ≤ q) : sgC f L q = 0 := if_neg (by omega)
theorem sg_lt {f : Nat → Int32} {L q a : Nat} {b : Int32} (ha : 0 < a) (ha2 : a < 2 ^ 31) (h : ¬ winC (sgC f L q) (nI a) b = 0) : q < L := by
  apply Classical.byContradiction
  intro z
  have := (win_of h).1
  rw [sg_out (by omega)] at this
  exact nI_nle ha ha2 this
theorem win_ix {x : Int32} {lo up : Nat} (hu : up < 2 ^ 31) (hlo : lo ≤ up) (h : ¬ winC x (nI lo) (nI up) = 0) : ∃ d, lo ≤ d ∧ d ≤ up ∧ x = nI d := by
  obtain ⟨w1, w2⟩ := win_of h
  have h0 : ¬ x < 0 := fun z => by
    have := Int32.lt_of_le_of_lt w1 z
    exact nI_pos (by omega) this
  obtain ⟨j, hj, rfl⟩ := nI_of h0
  exact ⟨j, nI_le_of (by omega) (by omega) w1, nI_le_of (by omega) (by omega) w2, rfl⟩
theorem dig_of {f : Nat → Int32} {L q lo : Nat} (hq : q < L) (hlo : lo ≤ 9) (h : ¬ winC (sgC f L q) (nI (48 + lo)) (nI 57) = 0) : ∃ d, lo ≤ d ∧ d ≤ 9 ∧ sgC f L q = nI (48 + d) ∧ dgC f L q = nI d := by
  obtain ⟨e, h1, h2, h3⟩ := win_ix (by omega) (by omega) h
  refine ⟨e - 48, by omega, by omega, by rw [h3]; congr 1; omega, ?_⟩
  unfold dgC
  rw [h3, if_pos (⟨(nI_leI (a := 48) (by omega) (by omega)).mpr (by omega), (nI_leI (b := 57) (by omega) (by omega)).mpr (by omega)⟩ : (48 : Int32) ≤ nI e ∧ nI e ≤ 57)]
  exact pk_sub (b := 48) (by omega)
theorem dg_bad {f : Nat → Int32} {L q : Nat} (h : winC (sgC f L q) (nI 48) (nI 57) = 0) : dgC f L q = -1 := by
  unfold dgC
  unfold winC at h
  by_cases c : 48 ≤ sgC f L q ∧ sgC f L q ≤ 57
  · rw [if_pos (show nI 48 ≤ sgC f L q ∧ sgC f L q ≤ nI 57 from c)] at h
    exact absurd h (by decide)
  · rw [if_neg c]
theorem dg_out {f : Nat → Int32} {L q : Nat} (h : L ≤ q) : dgC f L q = -1 := by
  apply dg_bad
  rw [sg_out h]
  decide
theorem dg_not {f : Nat → Int32} {L q : Nat} (hq : q < L) (h : winC (f q) (nI 48) (nI 57) = 0) : dgC f L q = -1 := dg_bad (by rw [show sgC f L q = f q from if_pos hq]; exact h)
/-- a number as the model reads it behind a first digit -/
def nuM (f : Nat → Int32) (L q : Nat) (hi : Int32) : Int32 × Nat := if dgC f L q = 0 ∨ dgC f L (q + 1) < 0 ∨ hi < 10 * dgC f L q + dgC f L (q + 1) then (dgC f L q, q + 1) else (10 * dgC f L q + dgC f L (q + 1), q + 1 + 1)
theorem nu_z {f : Nat → Int32} {L q d : Nat} {hi : Int32} (e : dgC f L q = nI d) (h : d = 0) : nuM f L q hi = (nI d, q + 1) := by
  unfold nuM
  rw [e, h]
  exact if_pos (Or.inl rfl)
theorem nu_o {f : Nat → Int32} {L q d : Nat} {hi : Int32} (e : dgC f L q = nI d) (h : dgC f L (q + 1) = -1) : nuM f L q hi = (nI d, q + 1) := by
  unfold nuM
  rw [e, h]
  exact if_pos (Or.inr (Or.inl (by decide)))
theorem nu_1 {f : Nat → Int32} {L q d d2 : Nat} {hi : Int32} (e : dgC f L q = nI d) (e2 : dgC f L (q + 1) = nI d2) (h : hi < 10 * nI d + nI d2) : nuM f L q hi = (nI d, q + 1) := by
  unfold nuM
  rw [e, e2]
  exact if_pos (Or.inr (Or.inr h))
theorem nu_2 {f : Nat → Int32} {L q d d2 : Nat} {hi : Int32} (e : dgC f L q = nI d) (e2 : dgC f L (q + 1) = nI d2) (k : ¬ d = 0) (h : ¬ hi < 10 * nI d + nI d2) (hd : d ≤ 9 := by omega) (hd2 : d2 ≤ 9 := by omega) : nuM f L q hi = (nI (10 * d + d2), q + 1 + 1) := by
  unfold nuM
  rw [e, e2]
  refine (if_neg ?_).trans ?_
  · rintro (z | z | z)
    · exact nI_ne0 (by omega) (by omega) z
    · exact nI_pos (by omega) z
    · exact h z
  · rw [show (10 : Int32) = nI 10 from rfl, pk_mul, nI_add]
theorem nuM_q (f : Nat → Int32) (L q : Nat) (hi : Int32) : (nuM f L q hi).2 ≤ q + 2 ∧ q + 1 ≤ (nuM f L q hi).2 := by
  unfold nuM
  split
  · exact ⟨Nat.le_succ _, Nat.le_refl _⟩
  · exact ⟨Nat.le_refl _, Nat.le_succ _⟩
set_option maxHeartbeats 4000000 in
set_option maxRecDepth 100000 in
/-- sign -/
theorem k_X8_sign_bad (l : Launch) (g : GG) (A : Nat → Prop) (M0 : MM) (Y : Nat) (σ : Nat → Int32) (ar : Nat → Nat → Int32) (ns : Nat → Int32) (hR : RepM g A M0 Y σ ar ns) (L q : Nat) (h1 : ns 1 = nI L) (hL : L ≤ 60) (h2 : ns 2 = nI q) (hq : q ≤ 100) (lo hi : Int32) (hbad : ¬ ns 3 = 0 ∨ L ≤ q ∨ winC (sgC (ar 5) L q) lo hi = 0)  : Met l yX8_sign (Uw yX8_sign cX8_sign 4 (Option.some ClassFile.FieldType.int)) (rmD 1) (PreM [.ref (Y), .int (lo), .int (hi)] g A M0) (PosI (fun r M1 => r = sgC (ar 5) L q ∧ ∃ ns1, RepM g A M1 Y σ ar ns1 ∧ FrM Y M0 M1 ∧ NSs ns ns1 (q) (nI 1)) g A) 0 0 A := by
  refine mk_Met (own := RX8) rfl rfl (by decide) (Nat.le_of_ble_eq_true rfl) ?_
  intro p e s m below meth c ls aa Q haa hQ hx hb hr hlk hml hown hts hK hM hS hl hnm
  obtain ⟨M, hMM⟩ : ∃ M, M = M0 := ⟨_, rfl⟩
  rw [← hMM] at hM hR
  have ht : ∀ w ∈ lw_good, w.before _ s = true := fun w h => hts w (List.mem_cons_of_mem _ h)
  have hF : FrM Y M0 M := by rw [hMM]; exact FrM.rf
  have hl : lv_has ls 4 [(0, .ref (Y)), (1, .int (lo)), (2, .int (hi))] := hl
  have n0 : ns 0 = ns 0 := rfl
  have n1 := h1
  have n2 := h2
  by_cases hqL : q < L
  · have es : sgC (ar 5) L q = ar 5 q := if_pos hqL
    refine lv_aload_n hx hb dX8_sign_0 rfl (lv_at hl 0 rfl) ?_
    refine rm_getN2 hx hb ht ui_X8 hown hK hM hR (ht _ uw_602) dX8_sign_1 ?_
    rw [n2]
    refine lv_aload_n hx hb dX8_sign_4 rfl (lv_at hl 0 rfl) ?_
    refine rm_getN1 hx hb ht ui_X8 hown hK hM hR (ht _ uw_601) dX8_sign_5 ?_
    rw [n1]
    refine lv_icmp_ge (tgt := 23) hx hb dX8_sign_8 (by decide) (fun c_8 => absurd c_8 (nI_ge hqL (by omega))) (fun c_8 => ?_)
    refine lv_aload_n hx hb dX8_sign_11 rfl (lv_at hl 0 rfl) ?_
    refine rm_getA5 hx hb ht ui_X8 hown hK hM hR (ht _ uw_600) dX8_sign_12 ?_
    refine lv_aload_n hx hb dX8_sign_15 rfl (lv_at hl 0 rfl) ?_
    refine rm_getN2 hx hb ht ui_X8 hown hK hM hR (ht _ uw_602) dX8_sign_16 ?_
    rw [n2]
    refine rm_aald hx hb hK hM hR 5 (by decide) (by decide) (by decide) (i := q) (show q < 60 by omega) dX8_sign_19 ?_
    refine lv_goto (tgt := 24) hx hb dX8_sign_20 (by decide) ?_
    refine lv_istore_n (lv' := [(3, .int (ar 5 q)), (0, .ref (Y)), (1, .int (lo)), (2, .int (hi))]) hx hb dX8_sign_24 rfl hl (by decide) rfl (fun ls hl => ?_)
    refine lv_aload_n hx hb dX8_sign_25 rfl (lv_at hl 1 rfl) ?_
    refine lv_aload_n hx hb dX8_sign_26 rfl (lv_at hl 1 rfl) ?_
    refine rm_getN3 hx hb ht ui_X8 hown hK hM hR (ht _ uw_603) dX8_sign_27 ?_
    refine lv_if_ne (tgt := 53) hx hb dX8_sign_30 (by decide) (fun c_30 => ?_) (fun c_30 => ?_)
    · refine lv_iconst (v := nI 1) hx hb dX8_sign_53 (by first | rfl | decide) ?_
      refine lv_goto (tgt := 58) hx hb dX8_sign_54 (by decide) ?_
      refine rm_putN3 hx hb ht ui_X8 hown hK hM hS hR hF (ht _ uw_603) (⟨rfl, rfl⟩) dX8_sign_58 (fun M H locs hM hR hF hS => ?_)
      obtain ⟨nsq, enq⟩ : ∃ n1, n1 = (va_up ns 3 (nI 1)) := ⟨_, rfl⟩
      rw [← enq] at hR
      have n0 : nsq 0 = ns 0 := by rw [enq]; exact n0
      have n1 : nsq 1 = nI L := by rw [enq]; exact n1
      have n2 : nsq 2 = nI q := by rw [enq]; exact n2
      have n3 : nsq 3 = nI 1 := by rw [enq]; rfl
      refine lv_aload_n hx hb dX8_sign_61 rfl (lv_at hl 1 rfl) ?_
      refine lv_dup hx hb dX8_sign_62 rfl ?_
      refine rm_getN2 hx hb ht ui_X8 hown hK hM hR (ht _ uw_602) dX8_sign_63 ?_
      rw [n2]
      refine lv_aload_n hx hb dX8_sign_66 rfl (lv_at hl 1 rfl) ?_
      refine rm_getN3 hx hb ht ui_X8 hown hK hM hR (ht _ uw_603) dX8_sign_67 ?_
      rw [n3]
      refine lv_if_eq (tgt := 77) hx hb dX8_sign_70 (by decide) (fun c_70 => absurd c_70 (by decide)) (fun c_70 => ?_)
      refine lv_iconst (v := nI 0) hx hb dX8_sign_73 (by first | rfl | decide) ?_
      refine lv_goto (tgt := 78) hx hb dX8_sign_74 (by decide) ?_
      refine lv_iadd hx hb dX8_sign_78 ?_
      rw [nI_add (q) (0)]
      refine rm_putN2 hx hb ht ui_X8 hown hK hM hS hR hF (ht _ uw_602) dX8_sign_79 (fun M H locs hM hR hF hS => ?_)
      obtain ⟨nsq, enq⟩ : ∃ n1, n1 = (va_up nsq 2 (nI (q + 0))) := ⟨_, rfl⟩
      rw [← enq] at hR
      have n0 : nsq 0 = ns 0 := by rw [enq]; exact n0
      have n1 : nsq 1 = nI L := by rw [enq]; exact n1
      have n3 : nsq 3 = nI 1 := by rw [enq]; exact n3
      have n2 : nsq 2 = nI (q + 0) := by rw [enq]; rfl
      refine lv_iload_n hx hb dX8_sign_82 rfl (lv_at hl 0 rfl) ?_
      subst hQ
      exact m_zret hx hb hr (rfl) hlk hK hM hS dX8_sign_83 (⟨es.symm, ⟨_, hR, hF, n0, n1.trans h1.symm, n2, n3⟩⟩)
    · refine lv_aload_n hx hb dX8_sign_33 rfl (lv_at hl 1 rfl) ?_
      refine rm_getN2 hx hb ht ui_X8 hown hK hM hR (ht _ uw_602) dX8_sign_34 ?_
      rw [n2]
      refine lv_aload_n hx hb dX8_sign_37 rfl (lv_at hl 1 rfl) ?_
      refine rm_getN1 hx hb ht ui_X8 hown hK hM hR (ht _ uw_601) dX8_sign_38 ?_
      rw [n1]
      refine lv_icmp_ge (tgt := 53) hx hb dX8_sign_41 (by decide) (fun c_41 => absurd c_41 (nI_ge hqL (by omega))) (fun c_41 => ?_)
      refine lv_iload_n hx hb dX8_sign_44 rfl (lv_at hl 0 rfl) ?_
      refine lv_iload_n hx hb dX8_sign_45 rfl (lv_at hl 2 rfl) ?_
      refine lv_iload_n hx hb dX8_sign_46 rfl (lv_at hl 3 rfl) ?_
      refine m_callRSI (val := winC (ar 5 q) (lo) (hi)) (As := [.int (ar 5 q), .int (lo), .int (hi)]) (rest := [.ref (Y)]) ⟨hx, hb, hml, hown, ht⟩ (k_X8_in l g A M (ar 5 q) (lo) (hi)) (cwS 3 ht (gUS uw_630 uw_631 uw_42 uw_632) rfl rfl rfl (by decide +kernel) ⟨by decide, by decide⟩) hK hM hS rfl hl.1 rfl (Nat.le_of_ble_eq_true rfl) dX8_sign_47 ⟨by decide, by decide⟩ (fun H locs hM hS => ?_)
      refine lv_if_ne (tgt := 57) hx hb dX8_sign_50 (by decide) (fun c_50 => absurd (by rw [← es]; exact (hbad.resolve_left (fun z => z c_30)).resolve_left (by omega)) c_50) (fun c_50 => ?_)
      refine lv_iconst (v := nI 1) hx hb dX8_sign_53 (by first | rfl | decide) ?_
      refine lv_goto (tgt := 58) hx hb dX8_sign_54 (by decide) ?_
      refine rm_putN3 hx hb ht ui_X8 hown hK hM hS hR hF (ht _ uw_603) (⟨rfl, rfl⟩) dX8_sign_58 (fun M H locs hM hR hF hS => ?_)
      obtain ⟨nsq, enq⟩ : ∃ n1, n1 = (va_up ns 3 (nI 1)) := ⟨_, rfl⟩
      rw [← enq] at hR
      have n0 : nsq 0 = ns 0 := by rw [enq]; exact n0
      have n1 : nsq 1 = nI L := by rw [enq]; exact n1
      have n2 : nsq 2 = nI q := by rw [enq]; exact n2
      have n3 : nsq 3 = nI 1 := by rw [enq]; rfl
      refine lv_aload_n hx hb dX8_sign_61 rfl (lv_at hl 1 rfl) ?_
      refine lv_dup hx hb dX8_sign_62 rfl ?_
      refine rm_getN2 hx hb ht ui_X8 hown hK hM hR (ht _ uw_602) dX8_sign_63 ?_
      rw [n2]
      refine lv_aload_n hx hb dX8_sign_66 rfl (lv_at hl 1 rfl) ?_
      refine rm_getN3 hx hb ht ui_X8 hown hK hM hR (ht _ uw_603) dX8_sign_67 ?_
      rw [n3]
      refine lv_if_eq (tgt := 77) hx hb dX8_sign_70 (by decide) (fun c_70 => absurd c_70 (by decide)) (fun c_70 => ?_)
      refine lv_iconst (v := nI 0) hx hb dX8_sign_73 (by first | rfl | decide) ?_
      refine lv_goto (tgt := 78) hx hb dX8_sign_74 (by decide) ?_
      refine lv_iadd hx hb dX8_sign_78 ?_
      rw [nI_add (q) (0)]
      refine rm_putN2 hx hb ht ui_X8 hown hK hM hS hR hF (ht _ uw_602) dX8_sign_79 (fun M H locs hM hR hF hS => ?_)
      obtain ⟨nsq, enq⟩ : ∃ n1, n1 = (va_up nsq 2 (nI (q + 0))) := ⟨_, rfl⟩
      rw [← enq] at hR
      have n0 : nsq 0 = ns 0 := by rw [enq]; exact n0
      have n1 : nsq 1 = nI L := by rw [enq]; exact n1
      have n3 : nsq 3 = nI 1 := by rw [enq]; exact n3
      have n2 : nsq 2 = nI (q + 0) := by rw [enq]; rfl
      refine lv_iload_n hx hb dX8_sign_82 rfl (lv_at hl 0 rfl) ?_
      subst hQ
      exact m_zret hx hb hr (rfl) hlk hK hM hS dX8_sign_83 (⟨es.symm, ⟨_, hR, hF, n0, n1.trans h1.symm, n2, n3⟩⟩)
  · have es : sgC (ar 5) L q = 0 := if_neg hqL
    refine lv_aload_n hx hb dX8_sign_0 rfl (lv_at hl 0 rfl) ?_
    refine rm_getN2 hx hb ht ui_X8 hown hK hM hR (ht _ uw_602) dX8_sign_1 ?_
    rw [n2]
    refine lv_aload_n hx hb dX8_sign_4 rfl (lv_at hl 0 rfl) ?_
    refine rm_getN1 hx hb ht ui_X8 hown hK hM hR (ht _ uw_601) dX8_sign_5 ?_
    rw [n1]
    refine lv_icmp_ge (tgt := 23) hx hb dX8_sign_8 (by decide) (fun c_8 => ?_) (fun c_8 => absurd ((nI_leI (by omega) (by omega)).mpr (by omega)) c_8)
    refine lv_iconst (v := nI 0) hx hb dX8_sign_23 (by first | rfl | decide) ?_
    refine lv_istore_n (lv' := [(3, .int (nI 0)), (0, .ref (Y)), (1, .int (lo)), (2, .int (hi))]) hx hb dX8_sign_24 rfl hl (by decide) rfl (fun ls hl => ?_)
    refine lv_aload_n hx hb dX8_sign_25 rfl (lv_at hl 1 rfl) ?_
    refine lv_aload_n hx hb dX8_sign_26 rfl (lv_at hl 1 rfl) ?_
    refine rm_getN3 hx hb ht ui_X8 hown hK hM hR (ht _ uw_603) dX8_sign_27 ?_
    refine lv_if_ne (tgt := 53) hx hb dX8_sign_30 (by decide) (fun c_30 => ?_) (fun c_30 => ?_)
    · refine lv_iconst (v := nI 1) hx hb dX8_sign_53 (by first | rfl | decide) ?_
      refine lv_goto (tgt := 58) hx hb dX8_sign_54 (by decide) ?_
      refine rm_putN3 hx hb ht ui_X8 hown hK hM hS hR hF (ht _ uw_603) (⟨rfl, rfl⟩) dX8_sign_58 (fun M H locs hM hR hF hS => ?_)
      obtain ⟨nsq, enq⟩ : ∃ n1, n1 = (va_up ns 3 (nI 1)) := ⟨_, rfl⟩
      rw [← enq] at hR
      have n0 : nsq 0 = ns 0 := by rw [enq]; exact n0
      have n1 : nsq 1 = nI L := by rw [enq]; exact n1
      have n2 : nsq 2 = nI q := by rw [enq]; exact n2
      have n3 : nsq 3 = nI 1 := by rw [enq]; rfl
      refine lv_aload_n hx hb dX8_sign_61 rfl (lv_at hl 1 rfl) ?_
      refine lv_dup hx hb dX8_sign_62 rfl ?_
      refine rm_getN2 hx hb ht ui_X8 hown hK hM hR (ht _ uw_602) dX8_sign_63 ?_
      rw [n2]
      refine lv_aload_n hx hb dX8_sign_66 rfl (lv_at hl 1 rfl) ?_
      refine rm_getN3 hx hb ht ui_X8 hown hK hM hR (ht _ uw_603) dX8_sign_67 ?_
      rw [n3]
      refine lv_if_eq (tgt := 77) hx hb dX8_sign_70 (by decide) (fun c_70 => absurd c_70 (by decide)) (fun c_70 => ?_)
      refine lv_iconst (v := nI 0) hx hb dX8_sign_73 (by first | rfl | decide) ?_
      refine lv_goto (tgt := 78) hx hb dX8_sign_74 (by decide) ?_
      refine lv_iadd hx hb dX8_sign_78 ?_
      rw [nI_add (q) (0)]
      refine rm_putN2 hx hb ht ui_X8 hown hK hM hS hR hF (ht _ uw_602) dX8_sign_79 (fun M H locs hM hR hF hS => ?_)
      obtain ⟨nsq, enq⟩ : ∃ n1, n1 = (va_up nsq 2 (nI (q + 0))) := ⟨_, rfl⟩
      rw [← enq] at hR
      have n0 : nsq 0 = ns 0 := by rw [enq]; exact n0
      have n1 : nsq 1 = nI L := by rw [enq]; exact n1
      have n3 : nsq 3 = nI 1 := by rw [enq]; exact n3
      have n2 : nsq 2 = nI (q + 0) := by rw [enq]; rfl
      refine lv_iload_n hx hb dX8_sign_82 rfl (lv_at hl 0 rfl) ?_
      subst hQ
      exact m_zret hx hb hr (rfl) hlk hK hM hS dX8_sign_83 (⟨es.symm, ⟨_, hR, hF, n0, n1.trans h1.symm, n2, n3⟩⟩)
    · refine lv_aload_n hx hb dX8_sign_33 rfl (lv_at hl 1 rfl) ?_
      refine rm_getN2 hx hb ht ui_X8 hown hK hM hR (ht _ uw_602) dX8_sign_34 ?_
      rw [n2]
      refine lv_aload_n hx hb dX8_sign_37 rfl (lv_at hl 1 rfl) ?_
      refine rm_getN1 hx hb ht ui_X8 hown hK hM hR (ht _ uw_601) dX8_sign_38 ?_
      rw [n1]
      refine lv_icmp_ge (tgt := 53) hx hb dX8_sign_41 (by decide) (fun c_41 => ?_) (fun c_41 => absurd ((nI_leI (by omega) (by omega)).mpr (by omega)) c_41)
      refine lv_iconst (v := nI 1) hx hb dX8_sign_53 (by first | rfl | decide) ?_
      refine lv_goto (tgt := 58) hx hb dX8_sign_54 (by decide) ?_
      refine rm_putN3 hx hb ht ui_X8 hown hK hM hS hR hF (ht _ uw_603) (⟨rfl, rfl⟩) dX8_sign_58 (fun M H locs hM hR hF hS => ?_)
      obtain ⟨nsq, enq⟩ : ∃ n1, n1 = (va_up ns 3 (nI 1)) := ⟨_, rfl⟩
      rw [← enq] at hR
      have n0 : nsq 0 = ns 0 := by rw [enq]; exact n0
      have n1 : nsq 1 = nI L := by rw [enq]; exact n1
      have n2 : nsq 2 = nI q := by rw [enq]; exact n2
      have n3 : nsq 3 = nI 1 := by rw [enq]; rfl
      refine lv_aload_n hx hb dX8_sign_61 rfl (lv_at hl 1 rfl) ?_
      refine lv_dup hx hb dX8_sign_62 rfl ?_
      refine rm_getN2 hx hb ht ui_X8 hown hK hM hR (ht _ uw_602) dX8_sign_63 ?_
      rw [n2]
      refine lv_aload_n hx hb dX8_sign_66 rfl (lv_at hl 1 rfl) ?_
      refine rm_getN3 hx hb ht ui_X8 hown hK hM hR (ht _ uw_603) dX8_sign_67 ?_
      rw [n3]
      refine lv_if_eq (tgt := 77) hx hb dX8_sign_70 (by decide) (fun c_70 => absurd c_70 (by decide)) (fun c_70 => ?_)
      refine lv_iconst (v := nI 0) hx hb dX8_sign_73 (by first | rfl | decide) ?_
      refine lv_goto (tgt := 78) hx hb dX8_sign_74 (by decide) ?_
      refine lv_iadd hx hb dX8_sign_78 ?_
      rw [nI_add (q) (0)]
      refine rm_putN2 hx hb ht ui_X8 hown hK hM hS hR hF (ht _ uw_602) dX8_sign_79 (fun M H locs hM hR hF hS => ?_)
      obtain ⟨nsq, enq⟩ : ∃ n1, n1 = (va_up nsq 2 (nI (q + 0))) := ⟨_, rfl⟩
      rw [← enq] at hR
      have n0 : nsq 0 = ns 0 := by rw [enq]; exact n0
      have n1 : nsq 1 = nI L := by rw [enq]; exact n1
      have n3 : nsq 3 = nI 1 := by rw [enq]; exact n3
      have n2 : nsq 2 = nI (q + 0) := by rw [enq]; rfl
      refine lv_iload_n hx hb dX8_sign_82 rfl (lv_at hl 0 rfl) ?_
      subst hQ
      exact m_zret hx hb hr (rfl) hlk hK hM hS dX8_sign_83 (⟨es.symm, ⟨_, hR, hF, n0, n1.trans h1.symm, n2, n3⟩⟩)

set_option maxHeartbeats 4000000 in
set_option maxRecDepth 100000 in
/-- sign -/
theorem k_X8_sign_ok (l : Launch) (g : GG) (A : Nat → Prop) (M0 : MM) (Y : Nat) (σ : Nat → Int32) (ar : Nat → Nat → Int32) (ns : Nat → Int32) (hR : RepM g A M0 Y σ ar ns) (L q : Nat) (h1 : ns 1 = nI L) (hL : L ≤ 60) (h2 : ns 2 = nI q) (hqL : q < L) (h3 : ns 3 = nI 0) (lo hi : Int32) (hok : ¬ winC (sgC (ar 5) L q) lo hi = 0)  : Met l yX8_sign (Uw yX8_sign cX8_sign 4 (Option.some ClassFile.FieldType.int)) (rmD 1) (PreM [.ref (Y), .int (lo), .int (hi)] g A M0) (PosI (fun r M1 => r = sgC (ar 5) L q ∧ ∃ ns1, RepM g A M1 Y σ ar ns1 ∧ FrM Y M0 M1 ∧ NSs ns ns1 (q + 1) (nI 0)) g A) 0 0 A := by
  refine mk_Met (own := RX8) rfl rfl (by decide) (Nat.le_of_ble_eq_true rfl) ?_
  intro p e s m below meth c ls aa Q haa hQ hx hb hr hlk hml hown hts hK hM hS hl hnm
  obtain ⟨M, hMM⟩ : ∃ M, M = M0 := ⟨_, rfl⟩
  rw [← hMM] at hM hR
  have ht : ∀ w ∈ lw_good, w.before _ s = true := fun w h => hts w (List.mem_cons_of_mem _ h)
  have hF : FrM Y M0 M := by rw [hMM]; exact FrM.rf
  have hl : lv_has ls 4 [(0, .ref (Y)), (1, .int (lo)), (2, .int (hi))] := hl
  have n0 : ns 0 = ns 0 := rfl
  have n1 := h1
  have n2 := h2
  have n3 := h3
  have es : sgC (ar 5) L q = ar 5 q := if_pos hqL
  refine lv_aload_n hx hb dX8_sign_0 rfl (lv_at hl 0 rfl) ?_
  refine rm_getN2 hx hb ht ui_X8 hown hK hM hR (ht _ uw_602) dX8_sign_1 ?_
  rw [n2]
  refine lv_aload_n hx hb dX8_sign_4 rfl (lv_at hl 0 rfl) ?_
  refine rm_getN1 hx hb ht ui_X8 hown hK hM hR (ht _ uw_601) dX8_sign_5 ?_
  rw [n1]
  refine lv_icmp_ge (tgt := 23) hx hb dX8_sign_8 (by decide) (fun c_8 => absurd c_8 (nI_ge hqL (by omega))) (fun c_8 => ?_)
  refine lv_aload_n hx hb dX8_sign_11 rfl (lv_at hl 0 rfl) ?_
  refine rm_getA5 hx hb ht ui_X8 hown hK hM hR (ht _ uw_600) dX8_sign_12 ?_
  refine lv_aload_n hx hb dX8_sign_15 rfl (lv_at hl 0 rfl) ?_
  refine rm_getN2 hx hb ht ui_X8 hown hK hM hR (ht _ uw_602) dX8_sign_16 ?_
  rw [n2]
  refine rm_aald hx hb hK hM hR 5 (by decide) (by decide) (by decide) (i := q) (show q < 60 by omega) dX8_sign_19 ?_
  refine lv_goto (tgt := 24) hx hb dX8_sign_20 (by decide) ?_
  refine lv_istore_n (lv' := [(3, .int (ar 5 q)), (0, .ref (Y)), (1, .int (lo)), (2, .int (hi))]) hx hb dX8_sign_24 rfl hl (by decide) rfl (fun ls hl => ?_)
  refine lv_aload_n hx hb dX8_sign_25 rfl (lv_at hl 1 rfl) ?_
  refine lv_aload_n hx hb dX8_sign_26 rfl (lv_at hl 1 rfl) ?_
  refine rm_getN3 hx hb ht ui_X8 hown hK hM hR (ht _ uw_603) dX8_sign_27 ?_
  rw [n3]
  refine lv_if_ne (tgt := 53) hx hb dX8_sign_30 (by decide) (fun c_30 => absurd (rfl) c_30) (fun c_30 => ?_)
  refine lv_aload_n hx hb dX8_sign_33 rfl (lv_at hl 1 rfl) ?_
  refine rm_getN2 hx hb ht ui_X8 hown hK hM hR (ht _ uw_602) dX8_sign_34 ?_
  rw [n2]
  refine lv_aload_n hx hb dX8_sign_37 rfl (lv_at hl 1 rfl) ?_
  refine rm_getN1 hx hb ht ui_X8 hown hK hM hR (ht _ uw_601) dX8_sign_38 ?_
  rw [n1]
  refine lv_icmp_ge (tgt := 53) hx hb dX8_sign_41 (by decide) (fun c_41 => absurd c_41 (nI_ge hqL (by omega))) (fun c_41 => ?_)
  refine lv_iload_n hx hb dX8_sign_44 rfl (lv_at hl 0 rfl) ?_
  refine lv_iload_n hx hb dX8_sign_45 rfl (lv_at hl 2 rfl) ?_
  refine lv_iload_n hx hb dX8_sign_46 rfl (lv_at hl 3 rfl) ?_
  refine m_callRSI (val := winC (ar 5 q) (lo) (hi)) (As := [.int (ar 5 q), .int (lo), .int (hi)]) (rest := [.ref (Y)]) ⟨hx, hb, hml, hown, ht⟩ (k_X8_in l g A M (ar 5 q) (lo) (hi)) (cwS 3 ht (gUS uw_630 uw_631 uw_42 uw_632) rfl rfl rfl (by decide +kernel) ⟨by decide, by decide⟩) hK hM hS rfl hl.1 rfl (Nat.le_of_ble_eq_true rfl) dX8_sign_47 ⟨by decide, by decide⟩ (fun H locs hM hS => ?_)
  refine lv_if_ne (tgt := 57) hx hb dX8_sign_50 (by decide) (fun c_50 => ?_) (fun c_50 => absurd c_50 (by rw [← es]; exact hok))
  refine lv_iconst (v := nI 0) hx hb dX8_sign_57 (by first | rfl | decide) ?_
  refine rm_putN3 hx hb ht ui_X8 hown hK hM hS hR hF (ht _ uw_603) (⟨rfl, rfl⟩) dX8_sign_58 (fun M H locs hM hR hF hS => ?_)
  obtain ⟨nsq, enq⟩ : ∃ n1, n1 = (va_up ns 3 (nI 0)) := ⟨_, rfl⟩
  rw [← enq] at hR
  have n0 : nsq 0 = ns 0 := by rw [enq]; exact n0
  have n1 : nsq 1 = nI L := by rw [enq]; exact n1
  have n2 : nsq 2 = nI q := by rw [enq]; exact n2
  have n3 : nsq 3 = nI 0 := by rw [enq]; rfl
  refine lv_aload_n hx hb dX8_sign_61 rfl (lv_at hl 1 rfl) ?_
  refine lv_dup hx hb dX8_sign_62 rfl ?_
  refine rm_getN2 hx hb ht ui_X8 hown hK hM hR (ht _ uw_602) dX8_sign_63 ?_
  rw [n2]
  refine lv_aload_n hx hb dX8_sign_66 rfl (lv_at hl 1 rfl) ?_
  refine rm_getN3 hx hb ht ui_X8 hown hK hM hR (ht _ uw_603) dX8_sign_67 ?_
  rw [n3]
  refine lv_if_eq (tgt := 77) hx hb dX8_sign_70 (by decide) (fun c_70 => ?_) (fun c_70 => absurd (rfl) c_70)
  refine lv_iconst (v := nI 1) hx hb dX8_sign_77 (by first | rfl | decide) ?_
  refine lv_iadd hx hb dX8_sign_78 ?_
  rw [nI_add (q) (1)]
  refine rm_putN2 hx hb ht ui_X8 hown hK hM hS hR hF (ht _ uw_602) dX8_sign_79 (fun M H locs hM hR hF hS => ?_)
  obtain ⟨nsq, enq⟩ : ∃ n1, n1 = (va_up nsq 2 (nI (q + 1))) := ⟨_, rfl⟩
  rw [← enq] at hR
  have n0 : nsq 0 = ns 0 := by rw [enq]; exact n0
  have n1 : nsq 1 = nI L := by rw [enq]; exact n1
  have n3 : nsq 3 = nI 0 := by rw [enq]; exact n3
  have n2 : nsq 2 = nI (q + 1) := by rw [enq]; rfl
  refine lv_iload_n hx hb dX8_sign_82 rfl (lv_at hl 0 rfl) ?_
  subst hQ
  exact m_zret hx hb hr (rfl) hlk hK hM hS dX8_sign_83 (⟨es.symm, ⟨_, hR, hF, n0, n1.trans h1.symm, n2, n3⟩⟩)

set_option maxHeartbeats 4000000 in
set_option maxRecDepth 100000 in
/-- number -/
theorem k_X8_number_bad (l : Launch) (g : GG) (A : Nat → Prop) (M0 : MM) (Y : Nat) (σ : Nat → Int32) (ar : Nat → Nat → Int32) (ns : Nat → Int32) (hR : RepM g A M0 Y σ ar ns) (L q : Nat) (h1 : ns 1 = nI L) (hL : L ≤ 60) (h2 : ns 2 = nI q) (hq : q ≤ 100) (lo : Nat) (hlo : lo ≤ 1) (hi : Int32) (hbad : ¬ ns 3 = 0 ∨ winC (sgC (ar 5) L q) (nI (48 + lo)) (nI 57) = 0)  : Met l yX8_number (Uw yX8_number cX8_number 4 (Option.some ClassFile.FieldType.int)) (rmD 2) (PreM [.ref (Y), .int (nI lo), .int (hi)] g A M0) (PosI (fun r M1 => True ∧ ∃ ns1, RepM g A M1 Y σ ar ns1 ∧ FrM Y M0 M1 ∧ NSs ns ns1 (q) (nI 1)) g A) 0 0 A := by
  refine mk_Met (own := RX8) rfl rfl (by decide) (Nat.le_of_ble_eq_true rfl) ?_
  intro p e s m below meth c ls aa Q haa hQ hx hb hr hlk hml hown hts hK hM hS hl hnm
  obtain ⟨M, hMM⟩ : ∃ M, M = M0 := ⟨_, rfl⟩
  rw [← hMM] at hM hR
  have ht : ∀ w ∈ lw_good, w.before _ s = true := fun w h => hts w (List.mem_cons_of_mem _ h)
  have hF : FrM Y M0 M := by rw [hMM]; exact FrM.rf
  have hl : lv_has ls 4 [(0, .ref (Y)), (1, .int (nI lo)), (2, .int (hi))] := hl
  have n0 : ns 0 = ns 0 := rfl
  have n1 := h1
  have n2 := h2
  refine lv_aload_n hx hb dX8_number_0 rfl (lv_at hl 0 rfl) ?_
  refine lv_bipush (v := nI 48) hx hb dX8_number_1 (by first | rfl | decide) ?_
  refine lv_iload_n hx hb dX8_number_3 rfl (lv_at hl 1 rfl) ?_
  refine lv_iadd hx hb dX8_number_4 ?_
  rw [nI_add (48) (lo)]
  refine lv_bipush (v := nI 57) hx hb dX8_number_5 (by first | rfl | decide) ?_
  refine m_callI (As := [.int (nI (48 + lo)), .int (nI 57)]) (rest := []) ⟨hx, hb, hml, hown, ht⟩ (k_X8_sign_bad l g A M Y σ ar ns hR L q n1 hL n2 (by omega) (nI (48 + lo)) (nI 57) (hbad.imp_right Or.inr)) (cwV 2 ht (gU uw_726 uw_728 uw_26 uw_42 uw_729) rfl rfl rfl (by decide +kernel) ⟨by decide, by decide⟩) hK hM hS (m_recv hK hM (hR.1 Y (by omega) (by omega)) hR.2.1 rfl) rfl hl.1 rfl (Nat.le_of_ble_eq_true rfl) dX8_number_7 ⟨by decide, by decide⟩ (fun r9 M H locs hp hM hS => ?_)
  obtain ⟨e9, nsq, hR, hF1, m0, m1, m2, m3⟩ := hp
  have hF := hF.tr hF1
  have n0 := m0.trans n0
  have n1 := m1.trans n1
  have n2 := m2
  have n3 := m3
  refine lv_bipush (v := nI 48) hx hb dX8_number_10 (by first | rfl | decide) ?_
  refine lv_isub hx hb dX8_number_12 ?_
  refine lv_istore_n (lv' := [(3, .int ((r9) - (nI 48))), (0, .ref (Y)), (1, .int (nI lo)), (2, .int (hi))]) hx hb dX8_number_13 rfl hl (by decide) rfl (fun ls hl => ?_)
  refine lv_iload_n hx hb dX8_number_14 rfl (lv_at hl 0 rfl) ?_
  refine lv_if_le (tgt := 107) hx hb dX8_number_15 (by decide) (fun c_15 => ?_) (fun c_15 => ?_)
  · refine lv_iload_n hx hb dX8_number_107 rfl (lv_at hl 0 rfl) ?_
    subst hQ
    exact m_zret hx hb hr (rfl) hlk hK hM hS dX8_number_108 (⟨trivial, ⟨_, hR, hF, n0, n1.trans h1.symm, n2, n3⟩⟩)
  · refine lv_aload_n hx hb dX8_number_18 rfl (lv_at hl 1 rfl) ?_
    refine rm_getN3 hx hb ht ui_X8 hown hK hM hR (ht _ uw_603) dX8_number_19 ?_
    rw [n3]
    refine lv_if_ne (tgt := 107) hx hb dX8_number_22 (by decide) (fun c_22 => ?_) (fun c_22 => absurd c_22 (by decide))
    refine lv_iload_n hx hb dX8_number_107 rfl (lv_at hl 0 rfl) ?_
    subst hQ
    exact m_zret hx hb hr (rfl) hlk hK hM hS dX8_number_108 (⟨trivial, ⟨_, hR, hF, n0, n1.trans h1.symm, n2, n3⟩⟩)

set_option maxHeartbeats 4000000 in
set_option maxRecDepth 100000 in
/-- number -/
theorem k_X8_number_ok (l : Launch) (g : GG) (A : Nat → Prop) (M0 : MM) (Y : Nat) (σ : Nat → Int32) (ar : Nat → Nat → Int32) (ns : Nat → Int32) (hR : RepM g A M0 Y σ ar ns) (L q : Nat) (h1 : ns 1 = nI L) (hL : L ≤ 60) (h2 : ns 2 = nI q) (hqL : q < L) (h3 : ns 3 = nI 0) (lo : Nat) (hlo : lo ≤ 1) (hi : Int32) (hhi : hi ≤ nI 99) (hok : ¬ winC (sgC (ar 5) L q) (nI (48 + lo)) (nI 57) = 0)  : Met l yX8_number (Uw yX8_number cX8_number 4 (Option.some ClassFile.FieldType.int)) (rmD 2) (PreM [.ref (Y), .int (nI lo), .int (hi)] g A M0) (PosI (fun r M1 => r = (nuM (ar 5) L q hi).1 ∧ ∃ ns1, RepM g A M1 Y σ ar ns1 ∧ FrM Y M0 M1 ∧ NSs ns ns1 ((nuM (ar 5) L q hi).2) (nI 0)) g A) 0 0 A := by
  refine mk_Met (own := RX8) rfl rfl (by decide) (Nat.le_of_ble_eq_true rfl) ?_
  intro p e s m below meth c ls aa Q haa hQ hx hb hr hlk hml hown hts hK hM hS hl hnm
  obtain ⟨M, hMM⟩ : ∃ M, M = M0 := ⟨_, rfl⟩
  rw [← hMM] at hM hR
  have ht : ∀ w ∈ lw_good, w.before _ s = true := fun w h => hts w (List.mem_cons_of_mem _ h)
  have hF : FrM Y M0 M := by rw [hMM]; exact FrM.rf
  have hl : lv_has ls 4 [(0, .ref (Y)), (1, .int (nI lo)), (2, .int (hi))] := hl
  have n0 : ns 0 = ns 0 := rfl
  have n1 := h1
  have n2 := h2
  have n3 := h3
  obtain ⟨d, hd1, hd2, ed, dg⟩ := dig_of hqL (by omega) hok
  refine lv_aload_n hx hb dX8_number_0 rfl (lv_at hl 0 rfl) ?_
  refine lv_bipush (v := nI 48) hx hb dX8_number_1 (by first | rfl | decide) ?_
  refine lv_iload_n hx hb dX8_number_3 rfl (lv_at hl 1 rfl) ?_
  refine lv_iadd hx hb dX8_number_4 ?_
  rw [nI_add (48) (lo)]
  refine lv_bipush (v := nI 57) hx hb dX8_number_5 (by first | rfl | decide) ?_
  refine m_callI (As := [.int (nI (48 + lo)), .int (nI 57)]) (rest := []) ⟨hx, hb, hml, hown, ht⟩ (k_X8_sign_ok l g A M Y σ ar ns hR L q n1 hL n2 (hqL) n3 (nI (48 + lo)) (nI 57) (hok)) (cwV 2 ht (gU uw_726 uw_728 uw_26 uw_42 uw_729) rfl rfl rfl (by decide +kernel) ⟨by decide, by decide⟩) hK hM hS (m_recv hK hM (hR.1 Y (by omega) (by omega)) hR.2.1 rfl) rfl hl.1 rfl (Nat.le_of_ble_eq_true rfl) dX8_number_7 ⟨by decide, by decide⟩ (fun r9 M H locs hp hM hS => ?_)
  obtain ⟨e9, nsq, hR, hF1, m0, m1, m2, m3⟩ := hp
  have hF := hF.tr hF1
  have n0 := m0.trans n0
  have n1 := m1.trans n1
  have n2 := m2
  have n3 := m3
  have e9 : r9 = nI (48 + d) := e9.trans ed
  subst e9
  refine lv_bipush (v := nI 48) hx hb dX8_number_10 (by first | rfl | decide) ?_
  refine lv_isub hx hb dX8_number_12 ?_
  rw [pk_sub (a := (48 + d)) (b := 48) (by omega)]
  refine lv_istore_n (lv' := [(3, .int (nI ((48 + d) - 48))), (0, .ref (Y)), (1, .int (nI lo)), (2, .int (hi))]) hx hb dX8_number_13 rfl hl (by decide) rfl (fun ls hl => ?_)
  rw [show 48 + d - 48 = d by omega] at hl
  refine lv_iload_n hx hb dX8_number_14 rfl (lv_at hl 0 rfl) ?_
  refine lv_if_le (tgt := 107) hx hb dX8_number_15 (by decide) (fun c_15 => ?_) (fun c_15 => ?_)
  · refine lv_iload_n hx hb dX8_number_107 rfl (lv_at hl 0 rfl) ?_
    subst hQ
    exact m_zret hx hb hr (rfl) hlk hK hM hS dX8_number_108 ((by
        have nuE : nuM (ar 5) L q hi = (nI d, q + 1) := by
          first
            | exact nu_z dg (show d = 0 by have z := nI_le_of (b := d) (a := 0) (by omega) (by omega) c_15; omega)
            | exact nu_1 dg dg2 (by rw [show (10 : Int32) = nI 10 from rfl, pk_mul, nI_add, show 10 * d + d2 = 10 * d + (48 + d2) - 48 by omega]; exact c_73)
            | exact nu_o dg (dg_out (nI_le_of (by omega) (by omega) c_33))
            | exact nu_o dg (dg_not hq1 c_52)
        rw [nuE]
        exact ⟨rfl, ⟨_, hR, hF, n0, n1.trans h1.symm, n2, n3⟩⟩))
  · have k15 : ¬ d = 0 := fun z => c_15 (by rw [z]; decide)
    refine lv_aload_n hx hb dX8_number_18 rfl (lv_at hl 1 rfl) ?_
    refine rm_getN3 hx hb ht ui_X8 hown hK hM hR (ht _ uw_603) dX8_number_19 ?_
    rw [n3]
    refine lv_if_ne (tgt := 107) hx hb dX8_number_22 (by decide) (fun c_22 => absurd (rfl) c_22) (fun c_22 => ?_)
    refine lv_aload_n hx hb dX8_number_25 rfl (lv_at hl 1 rfl) ?_
    refine rm_getN2 hx hb ht ui_X8 hown hK hM hR (ht _ uw_602) dX8_number_26 ?_
    rw [n2]
    refine lv_aload_n hx hb dX8_number_29 rfl (lv_at hl 1 rfl) ?_
    refine rm_getN1 hx hb ht ui_X8 hown hK hM hR (ht _ uw_601) dX8_number_30 ?_
    rw [n1]
    refine lv_icmp_ge (tgt := 107) hx hb dX8_number_33 (by decide) (fun c_33 => ?_) (fun c_33 => ?_)
    · refine lv_iload_n hx hb dX8_number_107 rfl (lv_at hl 0 rfl) ?_
      subst hQ
      exact m_zret hx hb hr (rfl) hlk hK hM hS dX8_number_108 ((by
          have nuE : nuM (ar 5) L q hi = (nI d, q + 1) := by
            first
              | exact nu_z dg (show d = 0 by have z := nI_le_of (b := d) (a := 0) (by omega) (by omega) c_15; omega)
              | exact nu_1 dg dg2 (by rw [show (10 : Int32) = nI 10 from rfl, pk_mul, nI_add, show 10 * d + d2 = 10 * d + (48 + d2) - 48 by omega]; exact c_73)
              | exact nu_o dg (dg_out (nI_le_of (by omega) (by omega) c_33))
              | exact nu_o dg (dg_not hq1 c_52)
          rw [nuE]
          exact ⟨rfl, ⟨_, hR, hF, n0, n1.trans h1.symm, n2, n3⟩⟩))
    · have hq1 : q + 1 < L := nI_lt_of (by omega) (by omega) c_33
      refine lv_aload_n hx hb dX8_number_36 rfl (lv_at hl 1 rfl) ?_
      refine rm_getA5 hx hb ht ui_X8 hown hK hM hR (ht _ uw_600) dX8_number_37 ?_
      refine lv_aload_n hx hb dX8_number_40 rfl (lv_at hl 1 rfl) ?_
      refine rm_getN2 hx hb ht ui_X8 hown hK hM hR (ht _ uw_602) dX8_number_41 ?_
      rw [n2]
      refine rm_aald hx hb hK hM hR 5 (by decide) (by decide) (by decide) (i := (q + 1)) (show q + 1 < 60 by omega) dX8_number_44 ?_
      refine lv_bipush (v := nI 48) hx hb dX8_number_45 (by first | rfl | decide) ?_
      refine lv_bipush (v := nI 57) hx hb dX8_number_47 (by first | rfl | decide) ?_
      refine m_callRSI (val := winC (ar 5 (q + 1)) (nI 48) (nI 57)) (As := [.int (ar 5 (q + 1)), .int (nI 48), .int (nI 57)]) (rest := []) ⟨hx, hb, hml, hown, ht⟩ (k_X8_in l g A M (ar 5 (q + 1)) (nI 48) (nI 57)) (cwS 3 ht (gUS uw_630 uw_631 uw_42 uw_632) rfl rfl rfl (by decide +kernel) ⟨by decide, by decide⟩) hK hM hS rfl hl.1 rfl (Nat.le_of_ble_eq_true rfl) dX8_number_49 ⟨by decide, by decide⟩ (fun H locs hM hS => ?_)
      refine lv_if_eq (tgt := 107) hx hb dX8_number_52 (by decide) (fun c_52 => ?_) (fun c_52 => ?_)
      · refine lv_iload_n hx hb dX8_number_107 rfl (lv_at hl 0 rfl) ?_
        subst hQ
        exact m_zret hx hb hr (rfl) hlk hK hM hS dX8_number_108 ((by
            have nuE : nuM (ar 5) L q hi = (nI d, q + 1) := by
              first
                | exact nu_z dg (show d = 0 by have z := nI_le_of (b := d) (a := 0) (by omega) (by omega) c_15; omega)
                | exact nu_1 dg dg2 (by rw [show (10 : Int32) = nI 10 from rfl, pk_mul, nI_add, show 10 * d + d2 = 10 * d + (48 + d2) - 48 by omega]; exact c_73)
                | exact nu_o dg (dg_out (nI_le_of (by omega) (by omega) c_33))
                | exact nu_o dg (dg_not hq1 c_52)
            rw [nuE]
            exact ⟨rfl, ⟨_, hR, hF, n0, n1.trans h1.symm, n2, n3⟩⟩))
      · obtain ⟨d2, ha2, hb2, ed2, dg2⟩ := dig_of (q := q + 1) (lo := 0) hq1 (by omega) (by rw [show sgC (ar 5) L (q + 1) = ar 5 (q + 1) from if_pos hq1]; exact c_52)
        have ed2 : ar 5 (q + 1) = nI (48 + d2) := (if_pos hq1).symm.trans ed2
        refine lv_bipush (v := nI 10) hx hb dX8_number_55 (by first | rfl | decide) ?_
        refine lv_iload_n hx hb dX8_number_57 rfl (lv_at hl 0 rfl) ?_
        refine lv_imul hx hb dX8_number_58 ?_
        rw [pk_mul (10) (d)]
        refine lv_aload_n hx hb dX8_number_59 rfl (lv_at hl 1 rfl) ?_
        refine rm_getA5 hx hb ht ui_X8 hown hK hM hR (ht _ uw_600) dX8_number_60 ?_
        refine lv_aload_n hx hb dX8_number_63 rfl (lv_at hl 1 rfl) ?_
        refine rm_getN2 hx hb ht ui_X8 hown hK hM hR (ht _ uw_602) dX8_number_64 ?_
        rw [n2]
        refine rm_aald hx hb hK hM hR 5 (by decide) (by decide) (by decide) (i := (q + 1)) (show q + 1 < 60 by omega) dX8_number_67 ?_
        rw [ed2]
        refine lv_iadd hx hb dX8_number_68 ?_
        rw [nI_add ((10 * d)) ((48 + d2))]
        refine lv_bipush (v := nI 48) hx hb dX8_number_69 (by first | rfl | decide) ?_
        refine lv_isub hx hb dX8_number_71 ?_
        rw [pk_sub (a := ((10 * d) + (48 + d2))) (b := 48) (by omega)]
        refine lv_iload_n hx hb dX8_number_72 rfl (lv_at hl 3 rfl) ?_
        refine lv_icmp_gt (tgt := 107) hx hb dX8_number_73 (by decide) (fun c_73 => ?_) (fun c_73 => ?_)
        · refine lv_iload_n hx hb dX8_number_107 rfl (lv_at hl 0 rfl) ?_
          subst hQ
          exact m_zret hx hb hr (rfl) hlk hK hM hS dX8_number_108 ((by
              have nuE : nuM (ar 5) L q hi = (nI d, q + 1) := by
                first
                  | exact nu_z dg (show d = 0 by have z := nI_le_of (b := d) (a := 0) (by omega) (by omega) c_15; omega)
                  | exact nu_1 dg dg2 (by rw [show (10 : Int32) = nI 10 from rfl, pk_mul, nI_add, show 10 * d + d2 = 10 * d + (48 + d2) - 48 by omega]; exact c_73)
                  | exact nu_o dg (dg_out (nI_le_of (by omega) (by omega) c_33))
                  | exact nu_o dg (dg_not hq1 c_52)
              rw [nuE]
              exact ⟨rfl, ⟨_, hR, hF, n0, n1.trans h1.symm, n2, n3⟩⟩))
        · refine lv_bipush (v := nI 10) hx hb dX8_number_76 (by first | rfl | decide) ?_
          refine lv_iload_n hx hb dX8_number_78 rfl (lv_at hl 0 rfl) ?_
          refine lv_imul hx hb dX8_number_79 ?_
          rw [pk_mul (10) (d)]
          refine lv_aload_n hx hb dX8_number_80 rfl (lv_at hl 1 rfl) ?_
          refine rm_getA5 hx hb ht ui_X8 hown hK hM hR (ht _ uw_600) dX8_number_81 ?_
          refine lv_aload_n hx hb dX8_number_84 rfl (lv_at hl 1 rfl) ?_
          refine rm_getN2 hx hb ht ui_X8 hown hK hM hR (ht _ uw_602) dX8_number_85 ?_
          rw [n2]
          refine rm_aald hx hb hK hM hR 5 (by decide) (by decide) (by decide) (i := (q + 1)) (show q + 1 < 60 by omega) dX8_number_88 ?_
          rw [ed2]
          refine lv_iadd hx hb dX8_number_89 ?_
          rw [nI_add ((10 * d)) ((48 + d2))]
          refine lv_bipush (v := nI 48) hx hb dX8_number_90 (by first | rfl | decide) ?_
          refine lv_isub hx hb dX8_number_92 ?_
          rw [pk_sub (a := ((10 * d) + (48 + d2))) (b := 48) (by omega)]
          refine lv_istore_n (lv' := [(3, .int (nI (((10 * d) + (48 + d2)) - 48))), (0, .ref (Y)), (1, .int (nI lo)), (2, .int (hi))]) hx hb dX8_number_93 rfl hl (by decide) rfl (fun ls hl => ?_)
          refine lv_aload_n hx hb dX8_number_94 rfl (lv_at hl 1 rfl) ?_
          refine lv_dup hx hb dX8_number_95 rfl ?_
          refine rm_getN2 hx hb ht ui_X8 hown hK hM hR (ht _ uw_602) dX8_number_96 ?_
          rw [n2]
          refine lv_iconst (v := nI 1) hx hb dX8_number_99 (by first | rfl | decide) ?_
          refine lv_iadd hx hb dX8_number_100 ?_
          rw [nI_add ((q + 1)) (1)]
          refine rm_putN2 hx hb ht ui_X8 hown hK hM hS hR hF (ht _ uw_602) dX8_number_101 (fun M H locs hM hR hF hS => ?_)
          obtain ⟨nsq, enq⟩ : ∃ n1, n1 = (va_up nsq 2 (nI ((q + 1) + 1))) := ⟨_, rfl⟩
          rw [← enq] at hR
          have n0 : nsq 0 = ns 0 := by rw [enq]; exact n0
          have n1 : nsq 1 = nI L := by rw [enq]; exact n1
          have n3 : nsq 3 = nI 0 := by rw [enq]; exact n3
          have n2 : nsq 2 = nI ((q + 1) + 1) := by rw [enq]; rfl
          refine lv_goto (tgt := 14) hx hb dX8_number_104 (by decide) ?_
          rw [show 10 * d + (48 + d2) - 48 = 10 * d + d2 by omega] at hl
          have k73 : ¬ hi < 10 * nI d + nI d2 := by rw [show (10 : Int32) = nI 10 from rfl, pk_mul, nI_add, show 10 * d + d2 = 10 * d + (48 + d2) - 48 by omega]; exact c_73
          refine lv_iload_n hx hb dX8_number_14 rfl (lv_at hl 0 rfl) ?_
          refine lv_if_le (tgt := 107) hx hb dX8_number_15 (by decide) (fun c_15 => absurd c_15 (nI_nle (by omega) (by omega))) (fun c_15 => ?_)
          refine lv_aload_n hx hb dX8_number_18 rfl (lv_at hl 1 rfl) ?_
          refine rm_getN3 hx hb ht ui_X8 hown hK hM hR (ht _ uw_603) dX8_number_19 ?_
          rw [n3]
          refine lv_if_ne (tgt := 107) hx hb dX8_number_22 (by decide) (fun c_22 => absurd (rfl) c_22) (fun c_22 => ?_)
          refine lv_aload_n hx hb dX8_number_25 rfl (lv_at hl 1 rfl) ?_
          refine rm_getN2 hx hb ht ui_X8 hown hK hM hR (ht _ uw_602) dX8_number_26 ?_
          rw [n2]
          refine lv_aload_n hx hb dX8_number_29 rfl (lv_at hl 1 rfl) ?_
          refine rm_getN1 hx hb ht ui_X8 hown hK hM hR (ht _ uw_601) dX8_number_30 ?_
          rw [n1]
          refine lv_icmp_ge (tgt := 107) hx hb dX8_number_33 (by decide) (fun c_33 => ?_) (fun c_33 => ?_)
          · refine lv_iload_n hx hb dX8_number_107 rfl (lv_at hl 0 rfl) ?_
            subst hQ
            exact m_zret hx hb hr (rfl) hlk hK hM hS dX8_number_108 ((by
                have nuE : nuM (ar 5) L q hi = (nI (10 * d + d2), q + 1 + 1) := nu_2 dg dg2 k15 k73
                rw [nuE]
                exact ⟨rfl, ⟨_, hR, hF, n0, n1.trans h1.symm, n2, n3⟩⟩))
          · have hq2 : q + 1 + 1 < L := nI_lt_of (by omega) (by omega) c_33
            refine lv_aload_n hx hb dX8_number_36 rfl (lv_at hl 1 rfl) ?_
            refine rm_getA5 hx hb ht ui_X8 hown hK hM hR (ht _ uw_600) dX8_number_37 ?_
            refine lv_aload_n hx hb dX8_number_40 rfl (lv_at hl 1 rfl) ?_
            refine rm_getN2 hx hb ht ui_X8 hown hK hM hR (ht _ uw_602) dX8_number_41 ?_
            rw [n2]
            refine rm_aald hx hb hK hM hR 5 (by decide) (by decide) (by decide) (i := ((q + 1) + 1)) (show q + 1 + 1 < 60 by omega) dX8_number_44 ?_
            refine lv_bipush (v := nI 48) hx hb dX8_number_45 (by first | rfl | decide) ?_
            refine lv_bipush (v := nI 57) hx hb dX8_number_47 (by first | rfl | decide) ?_
            refine m_callRSI (val := winC (ar 5 (q + 1 + 1)) (nI 48) (nI 57)) (As := [.int (ar 5 ((q + 1) + 1)), .int (nI 48), .int (nI 57)]) (rest := []) ⟨hx, hb, hml, hown, ht⟩ (k_X8_in l g A M (ar 5 (q + 1 + 1)) (nI 48) (nI 57)) (cwS 3 ht (gUS uw_630 uw_631 uw_42 uw_632) rfl rfl rfl (by decide +kernel) ⟨by decide, by decide⟩) hK hM hS rfl hl.1 rfl (Nat.le_of_ble_eq_true rfl) dX8_number_49 ⟨by decide, by decide⟩ (fun H locs hM hS => ?_)
            refine lv_if_eq (tgt := 107) hx hb dX8_number_52 (by decide) (fun c_52 => ?_) (fun c_52 => ?_)
            · refine lv_iload_n hx hb dX8_number_107 rfl (lv_at hl 0 rfl) ?_
              subst hQ
              exact m_zret hx hb hr (rfl) hlk hK hM hS dX8_number_108 ((by
                  have nuE : nuM (ar 5) L q hi = (nI (10 * d + d2), q + 1 + 1) := nu_2 dg dg2 k15 k73
                  rw [nuE]
                  exact ⟨rfl, ⟨_, hR, hF, n0, n1.trans h1.symm, n2, n3⟩⟩))
            · obtain ⟨d3, ha3, hb3, ed3, dg3⟩ := dig_of (q := q + 1 + 1) (lo := 0) hq2 (by omega) (by rw [show sgC (ar 5) L (q + 1 + 1) = ar 5 (q + 1 + 1) from if_pos hq2]; exact c_52)
              have ed3 : ar 5 (q + 1 + 1) = nI (48 + d3) := (if_pos hq2).symm.trans ed3
              refine lv_bipush (v := nI 10) hx hb dX8_number_55 (by first | rfl | decide) ?_
              refine lv_iload_n hx hb dX8_number_57 rfl (lv_at hl 0 rfl) ?_
              refine lv_imul hx hb dX8_number_58 ?_
              rw [pk_mul (10) ((10 * d + d2))]
              refine lv_aload_n hx hb dX8_number_59 rfl (lv_at hl 1 rfl) ?_
              refine rm_getA5 hx hb ht ui_X8 hown hK hM hR (ht _ uw_600) dX8_number_60 ?_
              refine lv_aload_n hx hb dX8_number_63 rfl (lv_at hl 1 rfl) ?_
              refine rm_getN2 hx hb ht ui_X8 hown hK hM hR (ht _ uw_602) dX8_number_64 ?_
              rw [n2]
              refine rm_aald hx hb hK hM hR 5 (by decide) (by decide) (by decide) (i := ((q + 1) + 1)) (show q + 1 + 1 < 60 by omega) dX8_number_67 ?_
              rw [ed3]
              refine lv_iadd hx hb dX8_number_68 ?_
              rw [nI_add ((10 * (10 * d + d2))) ((48 + d3))]
              refine lv_bipush (v := nI 48) hx hb dX8_number_69 (by first | rfl | decide) ?_
              refine lv_isub hx hb dX8_number_71 ?_
              rw [pk_sub (a := ((10 * (10 * d + d2)) + (48 + d3))) (b := 48) (by omega)]
              refine lv_iload_n hx hb dX8_number_72 rfl (lv_at hl 3 rfl) ?_
              refine lv_icmp_gt (tgt := 107) hx hb dX8_number_73 (by decide) (fun c_73 => ?_) (fun c_73 => absurd (Int32.lt_of_le_of_lt hhi (nI_lt (a := 99) (by omega) (by omega))) c_73)
              refine lv_iload_n hx hb dX8_number_107 rfl (lv_at hl 0 rfl) ?_
              subst hQ
              exact m_zret hx hb hr (rfl) hlk hK hM hS dX8_number_108 ((by
                  have nuE : nuM (ar 5) L q hi = (nI (10 * d + d2), q + 1 + 1) := nu_2 dg dg2 k15 k73
                  rw [nuE]
                  exact ⟨rfl, ⟨_, hR, hF, n0, n1.trans h1.symm, n2, n3⟩⟩))
