def mpF (x : Int64) (q : Nat) (f : Nat → Int32) (L : Nat) : Nat → Nat → Int32
  | 0 => f
  | b + 1 => va_up (mpF x q f L b) (L + b) (codC x (nI (q - 1 - b)))
theorem mpF_s {x : Int64} {q : Nat} {f : Nat → Int32} {L b r : Nat} (h : r = q - 1 - b) : mpF x q f L (b + 1) = va_up (mpF x q f L b) (L + b) (codC x (nI r)) := by
  subst h
  rfl
theorem shr_q (x : Int64) (q : Nat) : ((x).toUInt64 >>> ((nI (8 * q)).toInt64.toUInt64 &&& Int64.toUInt64 63)).toInt64 = shrC x (nI q) := by
  unfold shrC
  rw [show (8 : Int32) = nI 8 from rfl, pk_mul]
theorem chc_z {x : Int64} {q : Nat} (h : chW x 8 0 = some q) (h0 : q = 0) : chC x = 0 := by
  rw [chc_s h, h0]
  split <;> rfl
set_option maxHeartbeats 4000000 in
set_option maxRecDepth 100000 in
/-- put -/
theorem k_X8_put (l : Launch) (g : GG) (A : Nat → Prop) (M0 : MM) (Y : Nat) (σ : Nat → Int32) (ar : Nat → Nat → Int32) (ns : Nat → Int32) (hR : RepM g A M0 Y σ ar ns) (L : Nat) (h1 : ns 1 = nI L) (hL : L ≤ 60) (x : Int64)  : Met l yX8_put (Uw yX8_put cX8_put 5 (Option.some ClassFile.FieldType.int)) (rmD 1) (PreM [.ref (Y), .long (x)] g A M0) (PosI (fun r M1 => (chC x = 0 → r = -1000002 ∧ RepM g A M1 Y σ ar ns ∧ FrM Y M0 M1) ∧ (¬ chC x = 0 → ¬ nI L + chC x ≤ 60 → r = -1000004 ∧ RepM g A M1 Y σ ar ns ∧ FrM Y M0 M1) ∧ (¬ chC x = 0 → nI L + chC x ≤ 60 → r = nI (L + (chC x).toNatClampNeg) ∧ ∃ ns1, RepM g A M1 Y σ (va_up ar 5 (mpF x (chC x).toNatClampNeg (ar 5) L (chC x).toNatClampNeg)) ns1 ∧ FrM Y M0 M1 ∧ ns1 0 = ns 0 ∧ ns1 1 = nI (L + (chC x).toNatClampNeg))) g A) 0 0 A := by
  refine mk_Met (own := RX8) rfl rfl (by decide) (Nat.le_of_ble_eq_true rfl) ?_
  intro p e s m below meth c ls aa Q haa hQ hx hb hr hlk hml hown hts hK hM hS hl hnm
  obtain ⟨M, hMM⟩ : ∃ M, M = M0 := ⟨_, rfl⟩
  rw [← hMM] at hM hR
  have ht : ∀ w ∈ lw_good, w.before _ s = true := fun w h => hts w (List.mem_cons_of_mem _ h)
  have hF : FrM Y M0 M := by rw [hMM]; exact FrM.rf
  have hl : lv_has ls 5 [(0, .ref (Y)), (1, .long (x))] := hl
  have n0 : ns 0 = ns 0 := rfl
  have n1 := h1
  obtain ⟨w0, hw0⟩ : ∃ w0, w0 = chW x 8 0 := ⟨_, rfl⟩
  refine lv_iconst (v := nI 0) hx hb dX8_put_0 (by first | rfl | decide) ?_
  refine lv_istore_n (lv' := [(3, .int (nI 0)), (0, .ref (Y)), (1, .long (x))]) hx hb dX8_put_1 rfl hl (by decide) rfl (fun ls hl => ?_)
  have loop_2 : ∀ (z_2 : Nat) (q : Nat) (H : Heap) (locs : List Loc) (ls : Array Slot), 8 - q < z_2 → q ≤ 8 → chW x (8 - q) q = w0 → HD g A M H → va_S A s.heap H locs → lv_has ls 5 [(3, .int (nI q)), (0, .ref (Y)), (1, .long (x))] → W p l e (rmD 1) s m aa below meth c H locs 0 0 Q (F0 m 2 ls []) := by
    intro z_2
    induction z_2 with
    | zero => intro q H locs ls hz hq8 hw; exact absurd hz (Nat.not_lt_zero _)
    | succ z_2 ih_2 =>
    intro q H locs ls hz hq8 hw hM  hS hl
    refine lv_iload_n hx hb dX8_put_2 rfl (lv_at hl 0 rfl) ?_
    refine lv_bipush (v := nI 8) hx hb dX8_put_3 (by first | rfl | decide) ?_
    refine lv_icmp_ge (tgt := 40) hx hb dX8_put_5 (by decide) (fun c_5 => ?_) (fun c_5 => ?_)
    · have hw1 : chW x 8 0 = some q := by rw [← hw0, ← hw]; exact chw_0 (nI_le_of (a := q) (b := 8) (by omega) (by omega) c_5) hq8
      refine lv_iload_n hx hb dX8_put_40 rfl (lv_at hl 0 rfl) ?_
      refine lv_if_eq (tgt := 61) hx hb dX8_put_41 (by decide) (fun c_41 => ?_) (fun c_41 => ?_)
      · have eq : chC x = 0 := by
          first
            | exact (chc_c hw1 (fun z => c_47 (by rw [z]; decide)) c_58).symm
            | exact chc_z hw1 ((nI_eq (b := 0) (by omega) (by omega)).mp c_41)
        refine lv_ldc (v := (-1000002)) hx hb hown (ht _ uw_633) dX8_put_61 ?_
        subst hQ
        exact m_zret hx hb hr (rfl) hlk hK hM hS dX8_put_63 (⟨fun _ => ⟨rfl, hR, hF⟩, fun z => absurd eq z, fun z => absurd eq z⟩)
      · refine lv_iload_n hx hb dX8_put_44 rfl (lv_at hl 0 rfl) ?_
        refine lv_bipush (v := nI 8) hx hb dX8_put_45 (by first | rfl | decide) ?_
        refine lv_icmp_ge (tgt := 64) hx hb dX8_put_47 (by decide) (fun c_47 => ?_) (fun c_47 => ?_)
        · have hq0 : ¬ q = 0 := fun z => c_41 (by rw [z]; rfl)
          have eq : chC x = nI q := by
            first
              | exact (chc_b hw1 c_58).symm
              | exact (chc_a hw1 (show nI q = 8 by rw [show q = 8 by have z := nI_le_of (a := q) (b := 8) (by omega) (by omega) c_47; omega]; rfl)).symm
          refine lv_aload_n hx hb dX8_put_64 rfl (lv_at hl 1 rfl) ?_
          refine rm_getN1 hx hb ht ui_X8 hown hK hM hR (ht _ uw_601) dX8_put_65 ?_
          rw [n1]
          refine lv_iload_n hx hb dX8_put_68 rfl (lv_at hl 0 rfl) ?_
          refine lv_iadd hx hb dX8_put_69 ?_
          rw [nI_add (L) (q)]
          refine lv_bipush (v := nI 60) hx hb dX8_put_70 (by first | rfl | decide) ?_
          refine lv_icmp_le (tgt := 78) hx hb dX8_put_72 (by decide) (fun c_72 => ?_) (fun c_72 => ?_)
          · have hq60 : L + q ≤ 60 := nI_le_of (by omega) (by omega) c_72
            refine lv_iload_n hx hb dX8_put_78 rfl (lv_at hl 0 rfl) ?_
            refine lv_iconst (v := 1) hx hb dX8_put_79 (by first | rfl | decide) ?_
            refine lv_isub hx hb dX8_put_80 ?_
            refine lv_istore (lv' := [(4, .int (nI q - 1)), (3, .int (nI q)), (0, .ref (Y)), (1, .long (x))]) hx hb dX8_put_81 hl (by decide) rfl (fun ls hl => ?_)
            have loop_83 : ∀ (z_83 : Nat) (r9 : Nat) (b : Nat) (nsq : Nat → Int32) (M : MM) (H : Heap) (locs : List Loc) (ls : Array Slot), r9 < z_83 → b + r9 = q → nsq 0 = ns 0 → nsq 1 = nI (L + b) → HD g A M H → RepM g A M Y σ (va_up ar 5 (mpF x q (ar 5) L b)) nsq → FrM Y M0 M → va_S A s.heap H locs → lv_has ls 5 [(4, .int (nI r9 - 1)), (3, .int (nI q)), (0, .ref (Y)), (1, .long (x))] → W p l e (rmD 1) s m aa below meth c H locs 0 0 Q (F0 m 83 ls []) := by
              intro z_83
              induction z_83 with
              | zero => intro r9 b nsq M H locs ls hz hb9 n0 n1; exact absurd hz (Nat.not_lt_zero _)
              | succ z_83 ih_83 =>
              intro r9 b nsq M H locs ls hz hb9 n0 n1 hM hR hF hS hl
              refine lv_iload hx hb dX8_put_83 (lv_at hl 0 rfl) ?_
              refine lv_if_lt (tgt := 119) hx hb dX8_put_85 (by decide) (fun c_85 => ?_) (fun c_85 => ?_)
              · have hr9 : r9 = 0 := by
                  apply Classical.byContradiction
                  intro z
                  obtain ⟨r, rfl⟩ : ∃ r, r9 = r + 1 := ⟨r9 - 1, by omega⟩
                  rw [nI_pred] at c_85
                  exact nI_pos (by omega) c_85
                subst hr9
                have hbq : b = q := by omega
                subst hbq
                refine lv_aload_n hx hb dX8_put_119 rfl (lv_at hl 2 rfl) ?_
                refine rm_getN1 hx hb ht ui_X8 hown hK hM hR (ht _ uw_601) dX8_put_120 ?_
                rw [n1]
                subst hQ
                exact m_zret hx hb hr (rfl) hlk hK hM hS dX8_put_123 (have hne : ¬ chC x = 0 := by rw [eq]; exact nI_ne0 (by omega) (by omega)
                    have hgt : nI L + chC x ≤ 60 := by rw [eq, nI_add]; exact c_72
                    ⟨fun z => absurd z hne, fun _ z => absurd hgt z, fun _ _ => by rw [eq, nI_clamp (by omega)]; exact ⟨rfl, nsq, hR, hF, n0, n1⟩⟩)
              · obtain ⟨r, rfl⟩ : ∃ r, r9 = r + 1 := ⟨r9 - 1, by have z : r9 ≠ 0 := fun z => c_85 (by rw [z]; decide); omega⟩
                rw [nI_pred] at hl
                refine lv_aload_n hx hb dX8_put_88 rfl (lv_at hl 2 rfl) ?_
                refine rm_getA5 hx hb ht ui_X8 hown hK hM hR (ht _ uw_600) dX8_put_89 ?_
                refine lv_aload_n hx hb dX8_put_92 rfl (lv_at hl 2 rfl) ?_
                refine rm_getN1 hx hb ht ui_X8 hown hK hM hR (ht _ uw_601) dX8_put_93 ?_
                rw [n1]
                refine lv_lload_n hx hb dX8_put_96 rfl (lv_at hl 3 rfl) ?_
                refine lv_iload hx hb dX8_put_97 (lv_at hl 0 rfl) ?_
                refine m_callRSI (val := codC x (nI r)) (As := [.long (x), .int (nI r)]) (rest := [.int (nI (L + b)), .ref (Y + 1 + 5)]) ⟨hx, hb, hml, hown, ht⟩ ((by have z := k_X8_code l g A M x (nI r); rw [codM_C] at z; exact z)) (cwS 2 ht (gUS uw_792 uw_793 uw_42 uw_794) rfl rfl rfl (by decide +kernel) ⟨by decide, by decide⟩) hK hM hS rfl hl.1 rfl (Nat.le_of_ble_eq_true rfl) dX8_put_99 ⟨by decide, by decide⟩ (fun H locs hM hS => ?_)
                refine rm_aast hx hb hK hM hS hR hF 5 (by decide) (by decide) (by decide) (i := (L + b)) (show L + b < 60 by omega) dX8_put_102 (fun M H locs hM hR hF hS => ?_)
                refine lv_aload_n hx hb dX8_put_103 rfl (lv_at hl 2 rfl) ?_
                refine lv_dup hx hb dX8_put_104 rfl ?_
                refine rm_getN1 hx hb ht ui_X8 hown hK hM hR (ht _ uw_601) dX8_put_105 ?_
                rw [n1]
                refine lv_iconst (v := nI 1) hx hb dX8_put_108 (by first | rfl | decide) ?_
                refine lv_iadd hx hb dX8_put_109 ?_
                rw [nI_add ((L + b)) (1)]
                refine rm_putN1 hx hb ht ui_X8 hown hK hM hS hR hF (ht _ uw_601) dX8_put_110 (fun M H locs hM hR hF hS => ?_)
                obtain ⟨nsq, enq⟩ : ∃ n1, n1 = (va_up nsq 1 (nI ((L + b) + 1))) := ⟨_, rfl⟩
                rw [← enq] at hR
                have n0 : nsq 0 = ns 0 := by rw [enq]; exact n0
                have n1 : nsq 1 = nI ((L + b) + 1) := by rw [enq]; rfl
                refine lv_iinc (v := nI r - 1) (lv' := [(4, .int (nI r - 1)), (3, .int (nI q)), (0, .ref (Y)), (1, .long (x))]) hx hb dX8_put_113 hl (k := 0) rfl (dec_eq _) (by decide) rfl (fun ls hl => ?_)
                refine lv_goto (tgt := 83) hx hb dX8_put_116 (by decide) ?_
                exact ih_83 r (b + 1) _ _ _ _ _ (by omega) (by omega) n0 n1 hM (hR.eqv rfl (by rw [mpF_s (show r = q - 1 - b by omega), va_upup, va_up_self]) rfl) hF hS (lv_sub hl [0, 1, 2, 3] rfl)
            exact loop_83 _ q 0 ns _ _ _ _ (Nat.lt_succ_self _) (by omega) rfl n1 hM (hR.eqv rfl (funext (fun z => va_upself rfl z)) rfl) hF hS (lv_sub hl [0, 1, 2, 3] rfl)
          · refine lv_ldc (v := (-1000004)) hx hb hown (ht _ uw_670) dX8_put_75 ?_
            subst hQ
            exact m_zret hx hb hr (rfl) hlk hK hM hS dX8_put_77 (have hne : ¬ chC x = 0 := by rw [eq]; exact nI_ne0 (by omega) (by omega)
                have hgt : ¬ nI L + chC x ≤ 60 := by rw [eq, nI_add]; exact c_72
                ⟨fun z => absurd z hne, fun _ _ => ⟨rfl, hR, hF⟩, fun _ z => absurd z hgt⟩)
        · refine lv_lload_n hx hb dX8_put_50 rfl (lv_at hl 2 rfl) ?_
          refine lv_bipush (v := nI 8) hx hb dX8_put_51 (by first | rfl | decide) ?_
          refine lv_iload_n hx hb dX8_put_53 rfl (lv_at hl 0 rfl) ?_
          refine lv_imul hx hb dX8_put_54 ?_
          rw [pk_mul (8) (q)]
          refine lv_lushr (v := ((x).toUInt64 >>> ((nI (8 * q)).toInt64.toUInt64 &&& Int64.toUInt64 63)).toInt64) hx hb dX8_put_55 rfl ?_
          rw [shr_q x q]
          refine lv_lconst (v := 0) hx hb dX8_put_56 rfl ?_
          refine W.lcmp hx hb dX8_put_57 ?_
          refine lv_if_eq (tgt := 64) hx hb dX8_put_58 (by decide) (fun c_58 => ?_) (fun c_58 => ?_)
          · have hq0 : ¬ q = 0 := fun z => c_41 (by rw [z]; rfl)
            have eq : chC x = nI q := by
              first
                | exact (chc_b hw1 c_58).symm
                | exact (chc_a hw1 (show nI q = 8 by rw [show q = 8 by have z := nI_le_of (a := q) (b := 8) (by omega) (by omega) c_47; omega]; rfl)).symm
            refine lv_aload_n hx hb dX8_put_64 rfl (lv_at hl 1 rfl) ?_
            refine rm_getN1 hx hb ht ui_X8 hown hK hM hR (ht _ uw_601) dX8_put_65 ?_
            rw [n1]
            refine lv_iload_n hx hb dX8_put_68 rfl (lv_at hl 0 rfl) ?_
            refine lv_iadd hx hb dX8_put_69 ?_
            rw [nI_add (L) (q)]
            refine lv_bipush (v := nI 60) hx hb dX8_put_70 (by first | rfl | decide) ?_
            refine lv_icmp_le (tgt := 78) hx hb dX8_put_72 (by decide) (fun c_72 => ?_) (fun c_72 => ?_)
            · have hq60 : L + q ≤ 60 := nI_le_of (by omega) (by omega) c_72
              refine lv_iload_n hx hb dX8_put_78 rfl (lv_at hl 0 rfl) ?_
              refine lv_iconst (v := 1) hx hb dX8_put_79 (by first | rfl | decide) ?_
              refine lv_isub hx hb dX8_put_80 ?_
              refine lv_istore (lv' := [(4, .int (nI q - 1)), (3, .int (nI q)), (0, .ref (Y)), (1, .long (x))]) hx hb dX8_put_81 hl (by decide) rfl (fun ls hl => ?_)
              have loop_83 : ∀ (z_83 : Nat) (r9 : Nat) (b : Nat) (nsq : Nat → Int32) (M : MM) (H : Heap) (locs : List Loc) (ls : Array Slot), r9 < z_83 → b + r9 = q → nsq 0 = ns 0 → nsq 1 = nI (L + b) → HD g A M H → RepM g A M Y σ (va_up ar 5 (mpF x q (ar 5) L b)) nsq → FrM Y M0 M → va_S A s.heap H locs → lv_has ls 5 [(4, .int (nI r9 - 1)), (3, .int (nI q)), (0, .ref (Y)), (1, .long (x))] → W p l e (rmD 1) s m aa below meth c H locs 0 0 Q (F0 m 83 ls []) := by
                intro z_83
                induction z_83 with
                | zero => intro r9 b nsq M H locs ls hz hb9 n0 n1; exact absurd hz (Nat.not_lt_zero _)
                | succ z_83 ih_83 =>
                intro r9 b nsq M H locs ls hz hb9 n0 n1 hM hR hF hS hl
                refine lv_iload hx hb dX8_put_83 (lv_at hl 0 rfl) ?_
                refine lv_if_lt (tgt := 119) hx hb dX8_put_85 (by decide) (fun c_85 => ?_) (fun c_85 => ?_)
                · have hr9 : r9 = 0 := by
                    apply Classical.byContradiction
                    intro z
                    obtain ⟨r, rfl⟩ : ∃ r, r9 = r + 1 := ⟨r9 - 1, by omega⟩
                    rw [nI_pred] at c_85
                    exact nI_pos (by omega) c_85
                  subst hr9
                  have hbq : b = q := by omega
                  subst hbq
                  refine lv_aload_n hx hb dX8_put_119 rfl (lv_at hl 2 rfl) ?_
                  refine rm_getN1 hx hb ht ui_X8 hown hK hM hR (ht _ uw_601) dX8_put_120 ?_
                  rw [n1]
                  subst hQ
                  exact m_zret hx hb hr (rfl) hlk hK hM hS dX8_put_123 (have hne : ¬ chC x = 0 := by rw [eq]; exact nI_ne0 (by omega) (by omega)
                      have hgt : nI L + chC x ≤ 60 := by rw [eq, nI_add]; exact c_72
                      ⟨fun z => absurd z hne, fun _ z => absurd hgt z, fun _ _ => by rw [eq, nI_clamp (by omega)]; exact ⟨rfl, nsq, hR, hF, n0, n1⟩⟩)
                · obtain ⟨r, rfl⟩ : ∃ r, r9 = r + 1 := ⟨r9 - 1, by have z : r9 ≠ 0 := fun z => c_85 (by rw [z]; decide); omega⟩
                  rw [nI_pred] at hl
                  refine lv_aload_n hx hb dX8_put_88 rfl (lv_at hl 2 rfl) ?_
                  refine rm_getA5 hx hb ht ui_X8 hown hK hM hR (ht _ uw_600) dX8_put_89 ?_
                  refine lv_aload_n hx hb dX8_put_92 rfl (lv_at hl 2 rfl) ?_
                  refine rm_getN1 hx hb ht ui_X8 hown hK hM hR (ht _ uw_601) dX8_put_93 ?_
                  rw [n1]
                  refine lv_lload_n hx hb dX8_put_96 rfl (lv_at hl 3 rfl) ?_
                  refine lv_iload hx hb dX8_put_97 (lv_at hl 0 rfl) ?_
                  refine m_callRSI (val := codC x (nI r)) (As := [.long (x), .int (nI r)]) (rest := [.int (nI (L + b)), .ref (Y + 1 + 5)]) ⟨hx, hb, hml, hown, ht⟩ ((by have z := k_X8_code l g A M x (nI r); rw [codM_C] at z; exact z)) (cwS 2 ht (gUS uw_792 uw_793 uw_42 uw_794) rfl rfl rfl (by decide +kernel) ⟨by decide, by decide⟩) hK hM hS rfl hl.1 rfl (Nat.le_of_ble_eq_true rfl) dX8_put_99 ⟨by decide, by decide⟩ (fun H locs hM hS => ?_)
                  refine rm_aast hx hb hK hM hS hR hF 5 (by decide) (by decide) (by decide) (i := (L + b)) (show L + b < 60 by omega) dX8_put_102 (fun M H locs hM hR hF hS => ?_)
                  refine lv_aload_n hx hb dX8_put_103 rfl (lv_at hl 2 rfl) ?_
                  refine lv_dup hx hb dX8_put_104 rfl ?_
                  refine rm_getN1 hx hb ht ui_X8 hown hK hM hR (ht _ uw_601) dX8_put_105 ?_
                  rw [n1]
                  refine lv_iconst (v := nI 1) hx hb dX8_put_108 (by first | rfl | decide) ?_
                  refine lv_iadd hx hb dX8_put_109 ?_
                  rw [nI_add ((L + b)) (1)]
                  refine rm_putN1 hx hb ht ui_X8 hown hK hM hS hR hF (ht _ uw_601) dX8_put_110 (fun M H locs hM hR hF hS => ?_)
                  obtain ⟨nsq, enq⟩ : ∃ n1, n1 = (va_up nsq 1 (nI ((L + b) + 1))) := ⟨_, rfl⟩
                  rw [← enq] at hR
                  have n0 : nsq 0 = ns 0 := by rw [enq]; exact n0
                  have n1 : nsq 1 = nI ((L + b) + 1) := by rw [enq]; rfl
                  refine lv_iinc (v := nI r - 1) (lv' := [(4, .int (nI r - 1)), (3, .int (nI q)), (0, .ref (Y)), (1, .long (x))]) hx hb dX8_put_113 hl (k := 0) rfl (dec_eq _) (by decide) rfl (fun ls hl => ?_)
                  refine lv_goto (tgt := 83) hx hb dX8_put_116 (by decide) ?_
                  exact ih_83 r (b + 1) _ _ _ _ _ (by omega) (by omega) n0 n1 hM (hR.eqv rfl (by rw [mpF_s (show r = q - 1 - b by omega), va_upup, va_up_self]) rfl) hF hS (lv_sub hl [0, 1, 2, 3] rfl)
              exact loop_83 _ q 0 ns _ _ _ _ (Nat.lt_succ_self _) (by omega) rfl n1 hM (hR.eqv rfl (funext (fun z => va_upself rfl z)) rfl) hF hS (lv_sub hl [0, 1, 2, 3] rfl)
            · refine lv_ldc (v := (-1000004)) hx hb hown (ht _ uw_670) dX8_put_75 ?_
              subst hQ
              exact m_zret hx hb hr (rfl) hlk hK hM hS dX8_put_77 (have hne : ¬ chC x = 0 := by rw [eq]; exact nI_ne0 (by omega) (by omega)
                  have hgt : ¬ nI L + chC x ≤ 60 := by rw [eq, nI_add]; exact c_72
                  ⟨fun z => absurd z hne, fun _ _ => ⟨rfl, hR, hF⟩, fun _ z => absurd z hgt⟩)
          · have eq : chC x = 0 := by
              first
                | exact (chc_c hw1 (fun z => c_47 (by rw [z]; decide)) c_58).symm
                | exact chc_z hw1 ((nI_eq (b := 0) (by omega) (by omega)).mp c_41)
            refine lv_ldc (v := (-1000002)) hx hb hown (ht _ uw_633) dX8_put_61 ?_
            subst hQ
            exact m_zret hx hb hr (rfl) hlk hK hM hS dX8_put_63 (⟨fun _ => ⟨rfl, hR, hF⟩, fun z => absurd eq z, fun z => absurd eq z⟩)
    · refine lv_lload_n hx hb dX8_put_8 rfl (lv_at hl 2 rfl) ?_
      refine lv_iload_n hx hb dX8_put_9 rfl (lv_at hl 0 rfl) ?_
      refine m_callRSI (val := codC x (nI q)) (As := [.long (x), .int (nI q)]) (rest := []) ⟨hx, hb, hml, hown, ht⟩ ((by have z := k_X8_code l g A M x (nI q); rw [codM_C] at z; exact z)) (cwS 2 ht (gUS uw_792 uw_793 uw_42 uw_794) rfl rfl rfl (by decide +kernel) ⟨by decide, by decide⟩) hK hM hS rfl hl.1 rfl (Nat.le_of_ble_eq_true rfl) dX8_put_10 ⟨by decide, by decide⟩ (fun H locs hM hS => ?_)
      refine lv_if_eq (tgt := 40) hx hb dX8_put_13 (by decide) (fun c_13 => ?_) (fun c_13 => ?_)
      · have hw1 : chW x 8 0 = some q := by rw [← hw0, ← hw]; exact chw_1 (nI_lt_of (by omega) (by omega) c_5) c_13
        refine lv_iload_n hx hb dX8_put_40 rfl (lv_at hl 0 rfl) ?_
        refine lv_if_eq (tgt := 61) hx hb dX8_put_41 (by decide) (fun c_41 => ?_) (fun c_41 => ?_)
        · have eq : chC x = 0 := by
            first
              | exact (chc_c hw1 (fun z => c_47 (by rw [z]; decide)) c_58).symm
              | exact chc_z hw1 ((nI_eq (b := 0) (by omega) (by omega)).mp c_41)
          refine lv_ldc (v := (-1000002)) hx hb hown (ht _ uw_633) dX8_put_61 ?_
          subst hQ
          exact m_zret hx hb hr (rfl) hlk hK hM hS dX8_put_63 (⟨fun _ => ⟨rfl, hR, hF⟩, fun z => absurd eq z, fun z => absurd eq z⟩)
        · refine lv_iload_n hx hb dX8_put_44 rfl (lv_at hl 0 rfl) ?_
          refine lv_bipush (v := nI 8) hx hb dX8_put_45 (by first | rfl | decide) ?_
          refine lv_icmp_ge (tgt := 64) hx hb dX8_put_47 (by decide) (fun c_47 => ?_) (fun c_47 => ?_)
          · have hq0 : ¬ q = 0 := fun z => c_41 (by rw [z]; rfl)
            have eq : chC x = nI q := by
              first
                | exact (chc_b hw1 c_58).symm
                | exact (chc_a hw1 (show nI q = 8 by rw [show q = 8 by have z := nI_le_of (a := q) (b := 8) (by omega) (by omega) c_47; omega]; rfl)).symm
            refine lv_aload_n hx hb dX8_put_64 rfl (lv_at hl 1 rfl) ?_
            refine rm_getN1 hx hb ht ui_X8 hown hK hM hR (ht _ uw_601) dX8_put_65 ?_
            rw [n1]
            refine lv_iload_n hx hb dX8_put_68 rfl (lv_at hl 0 rfl) ?_
            refine lv_iadd hx hb dX8_put_69 ?_
            rw [nI_add (L) (q)]
            refine lv_bipush (v := nI 60) hx hb dX8_put_70 (by first | rfl | decide) ?_
            refine lv_icmp_le (tgt := 78) hx hb dX8_put_72 (by decide) (fun c_72 => ?_) (fun c_72 => ?_)
            · have hq60 : L + q ≤ 60 := nI_le_of (by omega) (by omega) c_72
              refine lv_iload_n hx hb dX8_put_78 rfl (lv_at hl 0 rfl) ?_
              refine lv_iconst (v := 1) hx hb dX8_put_79 (by first | rfl | decide) ?_
              refine lv_isub hx hb dX8_put_80 ?_
              refine lv_istore (lv' := [(4, .int (nI q - 1)), (3, .int (nI q)), (0, .ref (Y)), (1, .long (x))]) hx hb dX8_put_81 hl (by decide) rfl (fun ls hl => ?_)
              have loop_83 : ∀ (z_83 : Nat) (r9 : Nat) (b : Nat) (nsq : Nat → Int32) (M : MM) (H : Heap) (locs : List Loc) (ls : Array Slot), r9 < z_83 → b + r9 = q → nsq 0 = ns 0 → nsq 1 = nI (L + b) → HD g A M H → RepM g A M Y σ (va_up ar 5 (mpF x q (ar 5) L b)) nsq → FrM Y M0 M → va_S A s.heap H locs → lv_has ls 5 [(4, .int (nI r9 - 1)), (3, .int (nI q)), (0, .ref (Y)), (1, .long (x))] → W p l e (rmD 1) s m aa below meth c H locs 0 0 Q (F0 m 83 ls []) := by
                intro z_83
                induction z_83 with
                | zero => intro r9 b nsq M H locs ls hz hb9 n0 n1; exact absurd hz (Nat.not_lt_zero _)
                | succ z_83 ih_83 =>
                intro r9 b nsq M H locs ls hz hb9 n0 n1 hM hR hF hS hl
                refine lv_iload hx hb dX8_put_83 (lv_at hl 0 rfl) ?_
                refine lv_if_lt (tgt := 119) hx hb dX8_put_85 (by decide) (fun c_85 => ?_) (fun c_85 => ?_)
                · have hr9 : r9 = 0 := by
                    apply Classical.byContradiction
                    intro z
                    obtain ⟨r, rfl⟩ : ∃ r, r9 = r + 1 := ⟨r9 - 1, by omega⟩
                    rw [nI_pred] at c_85
                    exact nI_pos (by omega) c_85
                  subst hr9
                  have hbq : b = q := by omega
                  subst hbq
                  refine lv_aload_n hx hb dX8_put_119 rfl (lv_at hl 2 rfl) ?_
                  refine rm_getN1 hx hb ht ui_X8 hown hK hM hR (ht _ uw_601) dX8_put_120 ?_
                  rw [n1]
                  subst hQ
                  exact m_zret hx hb hr (rfl) hlk hK hM hS dX8_put_123 (have hne : ¬ chC x = 0 := by rw [eq]; exact nI_ne0 (by omega) (by omega)
                      have hgt : nI L + chC x ≤ 60 := by rw [eq, nI_add]; exact c_72
                      ⟨fun z => absurd z hne, fun _ z => absurd hgt z, fun _ _ => by rw [eq, nI_clamp (by omega)]; exact ⟨rfl, nsq, hR, hF, n0, n1⟩⟩)
                · obtain ⟨r, rfl⟩ : ∃ r, r9 = r + 1 := ⟨r9 - 1, by have z : r9 ≠ 0 := fun z => c_85 (by rw [z]; decide); omega⟩
                  rw [nI_pred] at hl
                  refine lv_aload_n hx hb dX8_put_88 rfl (lv_at hl 2 rfl) ?_
                  refine rm_getA5 hx hb ht ui_X8 hown hK hM hR (ht _ uw_600) dX8_put_89 ?_
                  refine lv_aload_n hx hb dX8_put_92 rfl (lv_at hl 2 rfl) ?_
                  refine rm_getN1 hx hb ht ui_X8 hown hK hM hR (ht _ uw_601) dX8_put_93 ?_
                  rw [n1]
                  refine lv_lload_n hx hb dX8_put_96 rfl (lv_at hl 3 rfl) ?_
                  refine lv_iload hx hb dX8_put_97 (lv_at hl 0 rfl) ?_
                  refine m_callRSI (val := codC x (nI r)) (As := [.long (x), .int (nI r)]) (rest := [.int (nI (L + b)), .ref (Y + 1 + 5)]) ⟨hx, hb, hml, hown, ht⟩ ((by have z := k_X8_code l g A M x (nI r); rw [codM_C] at z; exact z)) (cwS 2 ht (gUS uw_792 uw_793 uw_42 uw_794) rfl rfl rfl (by decide +kernel) ⟨by decide, by decide⟩) hK hM hS rfl hl.1 rfl (Nat.le_of_ble_eq_true rfl) dX8_put_99 ⟨by decide, by decide⟩ (fun H locs hM hS => ?_)
                  refine rm_aast hx hb hK hM hS hR hF 5 (by decide) (by decide) (by decide) (i := (L + b)) (show L + b < 60 by omega) dX8_put_102 (fun M H locs hM hR hF hS => ?_)
                  refine lv_aload_n hx hb dX8_put_103 rfl (lv_at hl 2 rfl) ?_
                  refine lv_dup hx hb dX8_put_104 rfl ?_
                  refine rm_getN1 hx hb ht ui_X8 hown hK hM hR (ht _ uw_601) dX8_put_105 ?_
                  rw [n1]
                  refine lv_iconst (v := nI 1) hx hb dX8_put_108 (by first | rfl | decide) ?_
                  refine lv_iadd hx hb dX8_put_109 ?_
                  rw [nI_add ((L + b)) (1)]
                  refine rm_putN1 hx hb ht ui_X8 hown hK hM hS hR hF (ht _ uw_601) dX8_put_110 (fun M H locs hM hR hF hS => ?_)
                  obtain ⟨nsq, enq⟩ : ∃ n1, n1 = (va_up nsq 1 (nI ((L + b) + 1))) := ⟨_, rfl⟩
                  rw [← enq] at hR
                  have n0 : nsq 0 = ns 0 := by rw [enq]; exact n0
                  have n1 : nsq 1 = nI ((L + b) + 1) := by rw [enq]; rfl
                  refine lv_iinc (v := nI r - 1) (lv' := [(4, .int (nI r - 1)), (3, .int (nI q)), (0, .ref (Y)), (1, .long (x))]) hx hb dX8_put_113 hl (k := 0) rfl (dec_eq _) (by decide) rfl (fun ls hl => ?_)
                  refine lv_goto (tgt := 83) hx hb dX8_put_116 (by decide) ?_
                  exact ih_83 r (b + 1) _ _ _ _ _ (by omega) (by omega) n0 n1 hM (hR.eqv rfl (by rw [mpF_s (show r = q - 1 - b by omega), va_upup, va_up_self]) rfl) hF hS (lv_sub hl [0, 1, 2, 3] rfl)
              exact loop_83 _ q 0 ns _ _ _ _ (Nat.lt_succ_self _) (by omega) rfl n1 hM (hR.eqv rfl (funext (fun z => va_upself rfl z)) rfl) hF hS (lv_sub hl [0, 1, 2, 3] rfl)
            · refine lv_ldc (v := (-1000004)) hx hb hown (ht _ uw_670) dX8_put_75 ?_
              subst hQ
              exact m_zret hx hb hr (rfl) hlk hK hM hS dX8_put_77 (have hne : ¬ chC x = 0 := by rw [eq]; exact nI_ne0 (by omega) (by omega)
                  have hgt : ¬ nI L + chC x ≤ 60 := by rw [eq, nI_add]; exact c_72
                  ⟨fun z => absurd z hne, fun _ _ => ⟨rfl, hR, hF⟩, fun _ z => absurd z hgt⟩)
          · refine lv_lload_n hx hb dX8_put_50 rfl (lv_at hl 2 rfl) ?_
            refine lv_bipush (v := nI 8) hx hb dX8_put_51 (by first | rfl | decide) ?_
            refine lv_iload_n hx hb dX8_put_53 rfl (lv_at hl 0 rfl) ?_
            refine lv_imul hx hb dX8_put_54 ?_
            rw [pk_mul (8) (q)]
            refine lv_lushr (v := ((x).toUInt64 >>> ((nI (8 * q)).toInt64.toUInt64 &&& Int64.toUInt64 63)).toInt64) hx hb dX8_put_55 rfl ?_
            rw [shr_q x q]
            refine lv_lconst (v := 0) hx hb dX8_put_56 rfl ?_
            refine W.lcmp hx hb dX8_put_57 ?_
            refine lv_if_eq (tgt := 64) hx hb dX8_put_58 (by decide) (fun c_58 => ?_) (fun c_58 => ?_)
            · have hq0 : ¬ q = 0 := fun z => c_41 (by rw [z]; rfl)
              have eq : chC x = nI q := by
                first
                  | exact (chc_b hw1 c_58).symm
                  | exact (chc_a hw1 (show nI q = 8 by rw [show q = 8 by have z := nI_le_of (a := q) (b := 8) (by omega) (by omega) c_47; omega]; rfl)).symm
              refine lv_aload_n hx hb dX8_put_64 rfl (lv_at hl 1 rfl) ?_
              refine rm_getN1 hx hb ht ui_X8 hown hK hM hR (ht _ uw_601) dX8_put_65 ?_
              rw [n1]
              refine lv_iload_n hx hb dX8_put_68 rfl (lv_at hl 0 rfl) ?_
              refine lv_iadd hx hb dX8_put_69 ?_
              rw [nI_add (L) (q)]
              refine lv_bipush (v := nI 60) hx hb dX8_put_70 (by first | rfl | decide) ?_
              refine lv_icmp_le (tgt := 78) hx hb dX8_put_72 (by decide) (fun c_72 => ?_) (fun c_72 => ?_)
              · have hq60 : L + q ≤ 60 := nI_le_of (by omega) (by omega) c_72
                refine lv_iload_n hx hb dX8_put_78 rfl (lv_at hl 0 rfl) ?_
                refine lv_iconst (v := 1) hx hb dX8_put_79 (by first | rfl | decide) ?_
                refine lv_isub hx hb dX8_put_80 ?_
                refine lv_istore (lv' := [(4, .int (nI q - 1)), (3, .int (nI q)), (0, .ref (Y)), (1, .long (x))]) hx hb dX8_put_81 hl (by decide) rfl (fun ls hl => ?_)
                have loop_83 : ∀ (z_83 : Nat) (r9 : Nat) (b : Nat) (nsq : Nat → Int32) (M : MM) (H : Heap) (locs : List Loc) (ls : Array Slot), r9 < z_83 → b + r9 = q → nsq 0 = ns 0 → nsq 1 = nI (L + b) → HD g A M H → RepM g A M Y σ (va_up ar 5 (mpF x q (ar 5) L b)) nsq → FrM Y M0 M → va_S A s.heap H locs → lv_has ls 5 [(4, .int (nI r9 - 1)), (3, .int (nI q)), (0, .ref (Y)), (1, .long (x))] → W p l e (rmD 1) s m aa below meth c H locs 0 0 Q (F0 m 83 ls []) := by
                  intro z_83
                  induction z_83 with
                  | zero => intro r9 b nsq M H locs ls hz hb9 n0 n1; exact absurd hz (Nat.not_lt_zero _)
                  | succ z_83 ih_83 =>
                  intro r9 b nsq M H locs ls hz hb9 n0 n1 hM hR hF hS hl
                  refine lv_iload hx hb dX8_put_83 (lv_at hl 0 rfl) ?_
                  refine lv_if_lt (tgt := 119) hx hb dX8_put_85 (by decide) (fun c_85 => ?_) (fun c_85 => ?_)
                  · have hr9 : r9 = 0 := by
                      apply Classical.byContradiction
                      intro z
                      obtain ⟨r, rfl⟩ : ∃ r, r9 = r + 1 := ⟨r9 - 1, by omega⟩
                      rw [nI_pred] at c_85
                      exact nI_pos (by omega) c_85
                    subst hr9
                    have hbq : b = q := by omega
                    subst hbq
                    refine lv_aload_n hx hb dX8_put_119 rfl (lv_at hl 2 rfl) ?_
                    refine rm_getN1 hx hb ht ui_X8 hown hK hM hR (ht _ uw_601) dX8_put_120 ?_
                    rw [n1]
                    subst hQ
                    exact m_zret hx hb hr (rfl) hlk hK hM hS dX8_put_123 (have hne : ¬ chC x = 0 := by rw [eq]; exact nI_ne0 (by omega) (by omega)
                        have hgt : nI L + chC x ≤ 60 := by rw [eq, nI_add]; exact c_72
                        ⟨fun z => absurd z hne, fun _ z => absurd hgt z, fun _ _ => by rw [eq, nI_clamp (by omega)]; exact ⟨rfl, nsq, hR, hF, n0, n1⟩⟩)
                  · obtain ⟨r, rfl⟩ : ∃ r, r9 = r + 1 := ⟨r9 - 1, by have z : r9 ≠ 0 := fun z => c_85 (by rw [z]; decide); omega⟩
                    rw [nI_pred] at hl
                    refine lv_aload_n hx hb dX8_put_88 rfl (lv_at hl 2 rfl) ?_
                    refine rm_getA5 hx hb ht ui_X8 hown hK hM hR (ht _ uw_600) dX8_put_89 ?_
                    refine lv_aload_n hx hb dX8_put_92 rfl (lv_at hl 2 rfl) ?_
                    refine rm_getN1 hx hb ht ui_X8 hown hK hM hR (ht _ uw_601) dX8_put_93 ?_
                    rw [n1]
                    refine lv_lload_n hx hb dX8_put_96 rfl (lv_at hl 3 rfl) ?_
                    refine lv_iload hx hb dX8_put_97 (lv_at hl 0 rfl) ?_
                    refine m_callRSI (val := codC x (nI r)) (As := [.long (x), .int (nI r)]) (rest := [.int (nI (L + b)), .ref (Y + 1 + 5)]) ⟨hx, hb, hml, hown, ht⟩ ((by have z := k_X8_code l g A M x (nI r); rw [codM_C] at z; exact z)) (cwS 2 ht (gUS uw_792 uw_793 uw_42 uw_794) rfl rfl rfl (by decide +kernel) ⟨by decide, by decide⟩) hK hM hS rfl hl.1 rfl (Nat.le_of_ble_eq_true rfl) dX8_put_99 ⟨by decide, by decide⟩ (fun H locs hM hS => ?_)
                    refine rm_aast hx hb hK hM hS hR hF 5 (by decide) (by decide) (by decide) (i := (L + b)) (show L + b < 60 by omega) dX8_put_102 (fun M H locs hM hR hF hS => ?_)
                    refine lv_aload_n hx hb dX8_put_103 rfl (lv_at hl 2 rfl) ?_
                    refine lv_dup hx hb dX8_put_104 rfl ?_
                    refine rm_getN1 hx hb ht ui_X8 hown hK hM hR (ht _ uw_601) dX8_put_105 ?_
                    rw [n1]
                    refine lv_iconst (v := nI 1) hx hb dX8_put_108 (by first | rfl | decide) ?_
                    refine lv_iadd hx hb dX8_put_109 ?_
                    rw [nI_add ((L + b)) (1)]
                    refine rm_putN1 hx hb ht ui_X8 hown hK hM hS hR hF (ht _ uw_601) dX8_put_110 (fun M H locs hM hR hF hS => ?_)
                    obtain ⟨nsq, enq⟩ : ∃ n1, n1 = (va_up nsq 1 (nI ((L + b) + 1))) := ⟨_, rfl⟩
                    rw [← enq] at hR
                    have n0 : nsq 0 = ns 0 := by rw [enq]; exact n0
                    have n1 : nsq 1 = nI ((L + b) + 1) := by rw [enq]; rfl
                    refine lv_iinc (v := nI r - 1) (lv' := [(4, .int (nI r - 1)), (3, .int (nI q)), (0, .ref (Y)), (1, .long (x))]) hx hb dX8_put_113 hl (k := 0) rfl (dec_eq _) (by decide) rfl (fun ls hl => ?_)
                    refine lv_goto (tgt := 83) hx hb dX8_put_116 (by decide) ?_
                    exact ih_83 r (b + 1) _ _ _ _ _ (by omega) (by omega) n0 n1 hM (hR.eqv rfl (by rw [mpF_s (show r = q - 1 - b by omega), va_upup, va_up_self]) rfl) hF hS (lv_sub hl [0, 1, 2, 3] rfl)
                exact loop_83 _ q 0 ns _ _ _ _ (Nat.lt_succ_self _) (by omega) rfl n1 hM (hR.eqv rfl (funext (fun z => va_upself rfl z)) rfl) hF hS (lv_sub hl [0, 1, 2, 3] rfl)
              · refine lv_ldc (v := (-1000004)) hx hb hown (ht _ uw_670) dX8_put_75 ?_
                subst hQ
                exact m_zret hx hb hr (rfl) hlk hK hM hS dX8_put_77 (have hne : ¬ chC x = 0 := by rw [eq]; exact nI_ne0 (by omega) (by omega)
                    have hgt : ¬ nI L + chC x ≤ 60 := by rw [eq, nI_add]; exact c_72
                    ⟨fun z => absurd z hne, fun _ _ => ⟨rfl, hR, hF⟩, fun _ z => absurd z hgt⟩)
            · have eq : chC x = 0 := by
                first
                  | exact (chc_c hw1 (fun z => c_47 (by rw [z]; decide)) c_58).symm
                  | exact chc_z hw1 ((nI_eq (b := 0) (by omega) (by omega)).mp c_41)
              refine lv_ldc (v := (-1000002)) hx hb hown (ht _ uw_633) dX8_put_61 ?_
              subst hQ
              exact m_zret hx hb hr (rfl) hlk hK hM hS dX8_put_63 (⟨fun _ => ⟨rfl, hR, hF⟩, fun z => absurd eq z, fun z => absurd eq z⟩)
      · refine lv_lload_n hx hb dX8_put_16 rfl (lv_at hl 2 rfl) ?_
        refine lv_iload_n hx hb dX8_put_17 rfl (lv_at hl 0 rfl) ?_
        refine m_callRSI (val := codC x (nI q)) (As := [.long (x), .int (nI q)]) (rest := []) ⟨hx, hb, hml, hown, ht⟩ ((by have z := k_X8_code l g A M x (nI q); rw [codM_C] at z; exact z)) (cwS 2 ht (gUS uw_792 uw_793 uw_42 uw_794) rfl rfl rfl (by decide +kernel) ⟨by decide, by decide⟩) hK hM hS rfl hl.1 rfl (Nat.le_of_ble_eq_true rfl) dX8_put_18 ⟨by decide, by decide⟩ (fun H locs hM hS => ?_)
        refine lv_bipush (v := nI 33) hx hb dX8_put_21 (by first | rfl | decide) ?_
        refine lv_bipush (v := nI 126) hx hb dX8_put_23 (by first | rfl | decide) ?_
        refine m_callRSI (val := winC (codC x (nI q)) (nI 33) (nI 126)) (As := [.int (codC x (nI q)), .int (nI 33), .int (nI 126)]) (rest := []) ⟨hx, hb, hml, hown, ht⟩ (k_X8_in l g A M (codC x (nI q)) (nI 33) (nI 126)) (cwS 3 ht (gUS uw_630 uw_631 uw_42 uw_632) rfl rfl rfl (by decide +kernel) ⟨by decide, by decide⟩) hK hM hS rfl hl.1 rfl (Nat.le_of_ble_eq_true rfl) dX8_put_25 ⟨by decide, by decide⟩ (fun H locs hM hS => ?_)
        refine lv_if_ne (tgt := 34) hx hb dX8_put_28 (by decide) (fun c_28 => ?_) (fun c_28 => ?_)
        · refine lv_iinc (v := nI (q + 1)) (lv' := [(3, .int (nI (q + 1))), (0, .ref (Y)), (1, .long (x))]) hx hb dX8_put_34 hl (k := 0) rfl (nI_1 _) (by decide) rfl (fun ls hl => ?_)
          refine lv_goto (tgt := 2) hx hb dX8_put_37 (by decide) ?_
          have hq7 : q < 8 := nI_lt_of (by omega) (by omega) c_5
          exact ih_2 (q + 1) _ _ _ (by omega) (by omega) ((chw_3 (nI_lt_of (by omega) (by omega) c_5) c_13 c_28).trans hw) hM hS (lv_sub hl [0, 1, 2] rfl)
        · refine lv_ldc (v := (-1000002)) hx hb hown (ht _ uw_633) dX8_put_31 ?_
          subst hQ
          exact m_zret hx hb hr (rfl) hlk hK hM hS dX8_put_33 (have eq : chC x = 0 := (chc_n (by rw [← hw0, ← hw]; exact chw_2 (nI_lt_of (by omega) (by omega) c_5) c_13 c_28)).symm; ⟨fun _ => ⟨rfl, hR, hF⟩, fun z => absurd eq z, fun z => absurd eq z⟩)
  exact loop_2 _ 0 _ _ _ (Nat.lt_succ_self _) (by omega) hw0.symm hM hS (lv_sub hl [0, 1, 2] rfl)
