/-- the model's row at first -/
def iniL : Nat → Nat → Int32
  | 0 => fun _ => 0
  | k + 1 => va_up (va_up (va_up (va_up (iniL k) (17 * k + 0) (nI 3)) (17 * k + 1) (nI 10)) (17 * k + 2) (nI 100)) (17 * k + 3) (nI k)
def iniS : Nat → Int32 := va_up (va_up (iniL 6) 102 (nI 10)) 103 (nI 1)
set_option maxHeartbeats 4000000 in
set_option maxRecDepth 100000 in
/-- the model -/
theorem k_X8_init (l : Launch) (g : GG) (X b : Nat) (M0 : MM) (hb0 : M0 (b) = .inr (8, [.null, .null, .null, .int 0, .null, .null, .null, .int 0, .int 0, .int 0])) (hXb : X ≤ b) : Met l yX8_init (Uw yX8_init cX8_init 2 (Option.none : Option ClassFile.FieldType)) (rmC 1 6 2322) (PreX [.ref b] g X (b + 1) M0) (PosX (fun M1 => (∀ q, q < b → M1 q = M0 q) ∧ RepM g (fun _ => True) M1 b iniS (fun _ _ => 0) (fun _ => 0)) g X (b + 7)) 6 2322 (upX X) := by
  refine mk_MetX (own := RX8) rfl rfl (by decide) (Nat.le_of_ble_eq_true rfl) ?_
  intro p e s m below meth c ls aa Q haa hQ hx hb hr hlk hml hown hts hK hNW hX hS hl hnm
  have ht : ∀ w ∈ lw_good, w.before _ s = true := fun w h => hts w (List.mem_cons_of_mem _ h)
  have hl : lv_has ls 2 [(0, .ref b)] := hl
  have lo : ∀ q, q < b → M0 q = M0 q := fun _ _ => rfl
  refine lv_aload_n hx hb dX8_init_0 rfl (lv_at hl 0 rfl) ?_
  refine W.objInit hx hb hown (ht _ uw_593) (ht _ uw_50) (ht _ uw_51) rfl (by rw [hml]; exact hl.1) rfl dX8_init_1 (Nat.le_of_ble_eq_true rfl) (Nat.le_of_ble_eq_true rfl) ?_
  refine lv_aload_n hx hb dX8_init_4 rfl (lv_at hl 0 rfl) ?_
  refine lv_sipush (v := nI 226) hx hb dX8_init_5 (by first | rfl | decide) ?_
  refine x_newa (atype := .int) hx hb (ht _ uw_625) hK hX hS 1 rfl (fun z => z) rfl (nI_pos (by omega)) (nI_clamp (by omega)) (Nat.le_of_ble_eq_true rfl) (Nat.le_of_ble_eq_true rfl) (Nat.le_of_ble_eq_true rfl) dX8_init_8 (fun H hX hS => ?_)
  obtain ⟨M1x, eM⟩ : ∃ M1 : MM, M1 = va_up M0 (b + 1) (.inl (g.2 1, 226, .inl (fun _ => 0))) := ⟨_, rfl⟩
  have hX : HX g X (b + 2) M1x H := by rw [eM]; exact hX
  have lo : ∀ q, q < b → M1x (q) = M0 q := fun q hq => by rw [eM]; exact (va_up_ne _ _ (by omega)).trans (lo q hq)
  have hb0 : M1x (b) = .inr (8, [.null, .null, .null, .int 0, .null, .null, .null, .int 0, .int 0, .int 0]) := by rw [eM]; exact (va_up_ne _ _ (by omega)).trans (hb0 )
  have hs1 : M1x (b + 1) = .inl (g.2 1, 226, .inl (fun _ => 0)) := by rw [eM]; exact va_up_self _ _ _
  refine x_putF (ci := 8) (C := RX8) (T := TX8) (n := 10) hx hb ht ui_X8 tyX8 tyX8_ok nmX8 hown hK hX hS ⟨by omega, by omega⟩ hb0 rfl 0 (by decide) (ht _ uw_594) rfl (hnm.trans rfl) rfl rfl rfl (Nat.le_of_ble_eq_true rfl) dX8_init_10 (fun H locs hX hS => ?_)
  obtain ⟨M2x, eM⟩ : ∃ M1 : MM, M1 = va_up M1x (b) (.inr (8, [.ref (b + 1), .null, .null, .int 0, .null, .null, .null, .int 0, .int 0, .int 0])) := ⟨_, rfl⟩
  have hX : HX g X (b + 2) M2x H := by rw [eM]; exact hX
  have lo : ∀ q, q < b → M2x (q) = M0 q := fun q hq => by rw [eM]; exact (va_up_ne _ _ (by omega)).trans (lo q hq)
  have hb0 : M2x (b) = .inr (8, [.ref (b + 1), .null, .null, .int 0, .null, .null, .null, .int 0, .int 0, .int 0]) := by rw [eM]; exact va_up_self _ _ _
  have hs1 : M2x (b + 1) = .inl (g.2 1, 226, .inl (fun _ => 0)) := by rw [eM]; exact (va_up_ne _ _ (by omega)).trans (hs1 )
  refine lv_aload_n hx hb dX8_init_13 rfl (lv_at hl 0 rfl) ?_
  refine lv_sipush (v := nI 226) hx hb dX8_init_14 (by first | rfl | decide) ?_
  refine x_newa (atype := .int) hx hb (ht _ uw_625) hK hX hS 1 rfl (fun z => z) rfl (nI_pos (by omega)) (nI_clamp (by omega)) (Nat.le_of_ble_eq_true rfl) (Nat.le_of_ble_eq_true rfl) (Nat.le_of_ble_eq_true rfl) dX8_init_17 (fun H hX hS => ?_)
  obtain ⟨M3x, eM⟩ : ∃ M1 : MM, M1 = va_up M2x (b + 2) (.inl (g.2 1, 226, .inl (fun _ => 0))) := ⟨_, rfl⟩
  have hX : HX g X (b + 3) M3x H := by rw [eM]; exact hX
  have lo : ∀ q, q < b → M3x (q) = M0 q := fun q hq => by rw [eM]; exact (va_up_ne _ _ (by omega)).trans (lo q hq)
  have hb0 : M3x (b) = .inr (8, [.ref (b + 1), .null, .null, .int 0, .null, .null, .null, .int 0, .int 0, .int 0]) := by rw [eM]; exact (va_up_ne _ _ (by omega)).trans (hb0 )
  have hs1 : M3x (b + 1) = .inl (g.2 1, 226, .inl (fun _ => 0)) := by rw [eM]; exact (va_up_ne _ _ (by omega)).trans (hs1 )
  have hs2 : M3x (b + 2) = .inl (g.2 1, 226, .inl (fun _ => 0)) := by rw [eM]; exact va_up_self _ _ _
  refine x_putF (ci := 8) (C := RX8) (T := TX8) (n := 10) hx hb ht ui_X8 tyX8 tyX8_ok nmX8 hown hK hX hS ⟨by omega, by omega⟩ hb0 rfl 1 (by decide) (ht _ uw_595) rfl (hnm.trans rfl) rfl rfl rfl (Nat.le_of_ble_eq_true rfl) dX8_init_19 (fun H locs hX hS => ?_)
  obtain ⟨M4x, eM⟩ : ∃ M1 : MM, M1 = va_up M3x (b) (.inr (8, [.ref (b + 1), .ref (b + 2), .null, .int 0, .null, .null, .null, .int 0, .int 0, .int 0])) := ⟨_, rfl⟩
  have hX : HX g X (b + 3) M4x H := by rw [eM]; exact hX
  have lo : ∀ q, q < b → M4x (q) = M0 q := fun q hq => by rw [eM]; exact (va_up_ne _ _ (by omega)).trans (lo q hq)
  have hb0 : M4x (b) = .inr (8, [.ref (b + 1), .ref (b + 2), .null, .int 0, .null, .null, .null, .int 0, .int 0, .int 0]) := by rw [eM]; exact va_up_self _ _ _
  have hs1 : M4x (b + 1) = .inl (g.2 1, 226, .inl (fun _ => 0)) := by rw [eM]; exact (va_up_ne _ _ (by omega)).trans (hs1 )
  have hs2 : M4x (b + 2) = .inl (g.2 1, 226, .inl (fun _ => 0)) := by rw [eM]; exact (va_up_ne _ _ (by omega)).trans (hs2 )
  refine lv_aload_n hx hb dX8_init_22 rfl (lv_at hl 0 rfl) ?_
  refine lv_sipush (v := nI 1356) hx hb dX8_init_23 (by first | rfl | decide) ?_
  refine x_newa (atype := .int) hx hb (ht _ uw_625) hK hX hS 1 rfl (fun z => z) rfl (nI_pos (by omega)) (nI_clamp (by omega)) (Nat.le_of_ble_eq_true rfl) (Nat.le_of_ble_eq_true rfl) (Nat.le_of_ble_eq_true rfl) dX8_init_26 (fun H hX hS => ?_)
  obtain ⟨M5x, eM⟩ : ∃ M1 : MM, M1 = va_up M4x (b + 3) (.inl (g.2 1, 1356, .inl (fun _ => 0))) := ⟨_, rfl⟩
  have hX : HX g X (b + 4) M5x H := by rw [eM]; exact hX
  have lo : ∀ q, q < b → M5x (q) = M0 q := fun q hq => by rw [eM]; exact (va_up_ne _ _ (by omega)).trans (lo q hq)
  have hb0 : M5x (b) = .inr (8, [.ref (b + 1), .ref (b + 2), .null, .int 0, .null, .null, .null, .int 0, .int 0, .int 0]) := by rw [eM]; exact (va_up_ne _ _ (by omega)).trans (hb0 )
  have hs1 : M5x (b + 1) = .inl (g.2 1, 226, .inl (fun _ => 0)) := by rw [eM]; exact (va_up_ne _ _ (by omega)).trans (hs1 )
  have hs2 : M5x (b + 2) = .inl (g.2 1, 226, .inl (fun _ => 0)) := by rw [eM]; exact (va_up_ne _ _ (by omega)).trans (hs2 )
  have hs3 : M5x (b + 3) = .inl (g.2 1, 1356, .inl (fun _ => 0)) := by rw [eM]; exact va_up_self _ _ _
  refine x_putF (ci := 8) (C := RX8) (T := TX8) (n := 10) hx hb ht ui_X8 tyX8 tyX8_ok nmX8 hown hK hX hS ⟨by omega, by omega⟩ hb0 rfl 2 (by decide) (ht _ uw_596) rfl (hnm.trans rfl) rfl rfl rfl (Nat.le_of_ble_eq_true rfl) dX8_init_28 (fun H locs hX hS => ?_)
  obtain ⟨M6x, eM⟩ : ∃ M1 : MM, M1 = va_up M5x (b) (.inr (8, [.ref (b + 1), .ref (b + 2), .ref (b + 3), .int 0, .null, .null, .null, .int 0, .int 0, .int 0])) := ⟨_, rfl⟩
  have hX : HX g X (b + 4) M6x H := by rw [eM]; exact hX
  have lo : ∀ q, q < b → M6x (q) = M0 q := fun q hq => by rw [eM]; exact (va_up_ne _ _ (by omega)).trans (lo q hq)
  have hb0 : M6x (b) = .inr (8, [.ref (b + 1), .ref (b + 2), .ref (b + 3), .int 0, .null, .null, .null, .int 0, .int 0, .int 0]) := by rw [eM]; exact va_up_self _ _ _
  have hs1 : M6x (b + 1) = .inl (g.2 1, 226, .inl (fun _ => 0)) := by rw [eM]; exact (va_up_ne _ _ (by omega)).trans (hs1 )
  have hs2 : M6x (b + 2) = .inl (g.2 1, 226, .inl (fun _ => 0)) := by rw [eM]; exact (va_up_ne _ _ (by omega)).trans (hs2 )
  have hs3 : M6x (b + 3) = .inl (g.2 1, 1356, .inl (fun _ => 0)) := by rw [eM]; exact (va_up_ne _ _ (by omega)).trans (hs3 )
  refine lv_aload_n hx hb dX8_init_31 rfl (lv_at hl 0 rfl) ?_
  refine lv_sipush (v := nI 452) hx hb dX8_init_32 (by first | rfl | decide) ?_
  refine x_newa (atype := .int) hx hb (ht _ uw_625) hK hX hS 1 rfl (fun z => z) rfl (nI_pos (by omega)) (nI_clamp (by omega)) (Nat.le_of_ble_eq_true rfl) (Nat.le_of_ble_eq_true rfl) (Nat.le_of_ble_eq_true rfl) dX8_init_35 (fun H hX hS => ?_)
  obtain ⟨M7x, eM⟩ : ∃ M1 : MM, M1 = va_up M6x (b + 4) (.inl (g.2 1, 452, .inl (fun _ => 0))) := ⟨_, rfl⟩
  have hX : HX g X (b + 5) M7x H := by rw [eM]; exact hX
  have lo : ∀ q, q < b → M7x (q) = M0 q := fun q hq => by rw [eM]; exact (va_up_ne _ _ (by omega)).trans (lo q hq)
  have hb0 : M7x (b) = .inr (8, [.ref (b + 1), .ref (b + 2), .ref (b + 3), .int 0, .null, .null, .null, .int 0, .int 0, .int 0]) := by rw [eM]; exact (va_up_ne _ _ (by omega)).trans (hb0 )
  have hs1 : M7x (b + 1) = .inl (g.2 1, 226, .inl (fun _ => 0)) := by rw [eM]; exact (va_up_ne _ _ (by omega)).trans (hs1 )
  have hs2 : M7x (b + 2) = .inl (g.2 1, 226, .inl (fun _ => 0)) := by rw [eM]; exact (va_up_ne _ _ (by omega)).trans (hs2 )
  have hs3 : M7x (b + 3) = .inl (g.2 1, 1356, .inl (fun _ => 0)) := by rw [eM]; exact (va_up_ne _ _ (by omega)).trans (hs3 )
  have hs4 : M7x (b + 4) = .inl (g.2 1, 452, .inl (fun _ => 0)) := by rw [eM]; exact va_up_self _ _ _
  refine x_putF (ci := 8) (C := RX8) (T := TX8) (n := 10) hx hb ht ui_X8 tyX8 tyX8_ok nmX8 hown hK hX hS ⟨by omega, by omega⟩ hb0 rfl 4 (by decide) (ht _ uw_598) rfl (hnm.trans rfl) rfl rfl rfl (Nat.le_of_ble_eq_true rfl) dX8_init_37 (fun H locs hX hS => ?_)
  obtain ⟨M8x, eM⟩ : ∃ M1 : MM, M1 = va_up M7x (b) (.inr (8, [.ref (b + 1), .ref (b + 2), .ref (b + 3), .int 0, .ref (b + 4), .null, .null, .int 0, .int 0, .int 0])) := ⟨_, rfl⟩
  have hX : HX g X (b + 5) M8x H := by rw [eM]; exact hX
  have lo : ∀ q, q < b → M8x (q) = M0 q := fun q hq => by rw [eM]; exact (va_up_ne _ _ (by omega)).trans (lo q hq)
  have hb0 : M8x (b) = .inr (8, [.ref (b + 1), .ref (b + 2), .ref (b + 3), .int 0, .ref (b + 4), .null, .null, .int 0, .int 0, .int 0]) := by rw [eM]; exact va_up_self _ _ _
  have hs1 : M8x (b + 1) = .inl (g.2 1, 226, .inl (fun _ => 0)) := by rw [eM]; exact (va_up_ne _ _ (by omega)).trans (hs1 )
  have hs2 : M8x (b + 2) = .inl (g.2 1, 226, .inl (fun _ => 0)) := by rw [eM]; exact (va_up_ne _ _ (by omega)).trans (hs2 )
  have hs3 : M8x (b + 3) = .inl (g.2 1, 1356, .inl (fun _ => 0)) := by rw [eM]; exact (va_up_ne _ _ (by omega)).trans (hs3 )
  have hs4 : M8x (b + 4) = .inl (g.2 1, 452, .inl (fun _ => 0)) := by rw [eM]; exact (va_up_ne _ _ (by omega)).trans (hs4 )
  refine lv_aload_n hx hb dX8_init_40 rfl (lv_at hl 0 rfl) ?_
  refine lv_iconst (v := nI 2) hx hb dX8_init_41 (by first | rfl | decide) ?_
  refine x_newa (atype := .boolean) hx hb (ht _ uw_244) hK hX hS 2 rfl (fun z => z) rfl (nI_pos (by omega)) (nI_clamp (by omega)) (Nat.le_of_ble_eq_true rfl) (Nat.le_of_ble_eq_true rfl) (Nat.le_of_ble_eq_true rfl) dX8_init_42 (fun H hX hS => ?_)
  obtain ⟨M9x, eM⟩ : ∃ M1 : MM, M1 = va_up M8x (b + 5) (.inl (g.2 2, 2, .inl (fun _ => 0))) := ⟨_, rfl⟩
  have hX : HX g X (b + 6) M9x H := by rw [eM]; exact hX
  have lo : ∀ q, q < b → M9x (q) = M0 q := fun q hq => by rw [eM]; exact (va_up_ne _ _ (by omega)).trans (lo q hq)
  have hb0 : M9x (b) = .inr (8, [.ref (b + 1), .ref (b + 2), .ref (b + 3), .int 0, .ref (b + 4), .null, .null, .int 0, .int 0, .int 0]) := by rw [eM]; exact (va_up_ne _ _ (by omega)).trans (hb0 )
  have hs1 : M9x (b + 1) = .inl (g.2 1, 226, .inl (fun _ => 0)) := by rw [eM]; exact (va_up_ne _ _ (by omega)).trans (hs1 )
  have hs2 : M9x (b + 2) = .inl (g.2 1, 226, .inl (fun _ => 0)) := by rw [eM]; exact (va_up_ne _ _ (by omega)).trans (hs2 )
  have hs3 : M9x (b + 3) = .inl (g.2 1, 1356, .inl (fun _ => 0)) := by rw [eM]; exact (va_up_ne _ _ (by omega)).trans (hs3 )
  have hs4 : M9x (b + 4) = .inl (g.2 1, 452, .inl (fun _ => 0)) := by rw [eM]; exact (va_up_ne _ _ (by omega)).trans (hs4 )
  have hs5 : M9x (b + 5) = .inl (g.2 2, 2, .inl (fun _ => 0)) := by rw [eM]; exact va_up_self _ _ _
  refine x_putF (ci := 8) (C := RX8) (T := TX8) (n := 10) hx hb ht ui_X8 tyX8 tyX8_ok nmX8 hown hK hX hS ⟨by omega, by omega⟩ hb0 rfl 5 (by decide) (ht _ uw_599) rfl (hnm.trans rfl) rfl rfl rfl (Nat.le_of_ble_eq_true rfl) dX8_init_44 (fun H locs hX hS => ?_)
  obtain ⟨M10x, eM⟩ : ∃ M1 : MM, M1 = va_up M9x (b) (.inr (8, [.ref (b + 1), .ref (b + 2), .ref (b + 3), .int 0, .ref (b + 4), .ref (b + 5), .null, .int 0, .int 0, .int 0])) := ⟨_, rfl⟩
  have hX : HX g X (b + 6) M10x H := by rw [eM]; exact hX
  have lo : ∀ q, q < b → M10x (q) = M0 q := fun q hq => by rw [eM]; exact (va_up_ne _ _ (by omega)).trans (lo q hq)
  have hb0 : M10x (b) = .inr (8, [.ref (b + 1), .ref (b + 2), .ref (b + 3), .int 0, .ref (b + 4), .ref (b + 5), .null, .int 0, .int 0, .int 0]) := by rw [eM]; exact va_up_self _ _ _
  have hs1 : M10x (b + 1) = .inl (g.2 1, 226, .inl (fun _ => 0)) := by rw [eM]; exact (va_up_ne _ _ (by omega)).trans (hs1 )
  have hs2 : M10x (b + 2) = .inl (g.2 1, 226, .inl (fun _ => 0)) := by rw [eM]; exact (va_up_ne _ _ (by omega)).trans (hs2 )
  have hs3 : M10x (b + 3) = .inl (g.2 1, 1356, .inl (fun _ => 0)) := by rw [eM]; exact (va_up_ne _ _ (by omega)).trans (hs3 )
  have hs4 : M10x (b + 4) = .inl (g.2 1, 452, .inl (fun _ => 0)) := by rw [eM]; exact (va_up_ne _ _ (by omega)).trans (hs4 )
  have hs5 : M10x (b + 5) = .inl (g.2 2, 2, .inl (fun _ => 0)) := by rw [eM]; exact (va_up_ne _ _ (by omega)).trans (hs5 )
  refine lv_aload_n hx hb dX8_init_47 rfl (lv_at hl 0 rfl) ?_
  refine lv_bipush (v := nI 60) hx hb dX8_init_48 (by first | rfl | decide) ?_
  refine x_newa (atype := .int) hx hb (ht _ uw_625) hK hX hS 1 rfl (fun z => z) rfl (nI_pos (by omega)) (nI_clamp (by omega)) (Nat.le_of_ble_eq_true rfl) (Nat.le_of_ble_eq_true rfl) (Nat.le_of_ble_eq_true rfl) dX8_init_50 (fun H hX hS => ?_)
  obtain ⟨M11x, eM⟩ : ∃ M1 : MM, M1 = va_up M10x (b + 6) (.inl (g.2 1, 60, .inl (fun _ => 0))) := ⟨_, rfl⟩
  have hX : HX g X (b + 7) M11x H := by rw [eM]; exact hX
  have lo : ∀ q, q < b → M11x (q) = M0 q := fun q hq => by rw [eM]; exact (va_up_ne _ _ (by omega)).trans (lo q hq)
  have hb0 : M11x (b) = .inr (8, [.ref (b + 1), .ref (b + 2), .ref (b + 3), .int 0, .ref (b + 4), .ref (b + 5), .null, .int 0, .int 0, .int 0]) := by rw [eM]; exact (va_up_ne _ _ (by omega)).trans (hb0 )
  have hs1 : M11x (b + 1) = .inl (g.2 1, 226, .inl (fun _ => 0)) := by rw [eM]; exact (va_up_ne _ _ (by omega)).trans (hs1 )
  have hs2 : M11x (b + 2) = .inl (g.2 1, 226, .inl (fun _ => 0)) := by rw [eM]; exact (va_up_ne _ _ (by omega)).trans (hs2 )
  have hs3 : M11x (b + 3) = .inl (g.2 1, 1356, .inl (fun _ => 0)) := by rw [eM]; exact (va_up_ne _ _ (by omega)).trans (hs3 )
  have hs4 : M11x (b + 4) = .inl (g.2 1, 452, .inl (fun _ => 0)) := by rw [eM]; exact (va_up_ne _ _ (by omega)).trans (hs4 )
  have hs5 : M11x (b + 5) = .inl (g.2 2, 2, .inl (fun _ => 0)) := by rw [eM]; exact (va_up_ne _ _ (by omega)).trans (hs5 )
  have hs6 : M11x (b + 6) = .inl (g.2 1, 60, .inl (fun _ => 0)) := by rw [eM]; exact va_up_self _ _ _
  refine x_putF (ci := 8) (C := RX8) (T := TX8) (n := 10) hx hb ht ui_X8 tyX8 tyX8_ok nmX8 hown hK hX hS ⟨by omega, by omega⟩ hb0 rfl 6 (by decide) (ht _ uw_600) rfl (hnm.trans rfl) rfl rfl rfl (Nat.le_of_ble_eq_true rfl) dX8_init_52 (fun H locs hX hS => ?_)
  obtain ⟨M12x, eM⟩ : ∃ M1 : MM, M1 = va_up M11x (b) (.inr (8, [.ref (b + 1), .ref (b + 2), .ref (b + 3), .int 0, .ref (b + 4), .ref (b + 5), .ref (b + 6), .int 0, .int 0, .int 0])) := ⟨_, rfl⟩
  have hX : HX g X (b + 7) M12x H := by rw [eM]; exact hX
  have lo : ∀ q, q < b → M12x (q) = M0 q := fun q hq => by rw [eM]; exact (va_up_ne _ _ (by omega)).trans (lo q hq)
  have hb0 : M12x (b) = .inr (8, [.ref (b + 1), .ref (b + 2), .ref (b + 3), .int 0, .ref (b + 4), .ref (b + 5), .ref (b + 6), .int 0, .int 0, .int 0]) := by rw [eM]; exact va_up_self _ _ _
  have hs1 : M12x (b + 1) = .inl (g.2 1, 226, .inl (fun _ => 0)) := by rw [eM]; exact (va_up_ne _ _ (by omega)).trans (hs1 )
  have hs2 : M12x (b + 2) = .inl (g.2 1, 226, .inl (fun _ => 0)) := by rw [eM]; exact (va_up_ne _ _ (by omega)).trans (hs2 )
  have hs3 : M12x (b + 3) = .inl (g.2 1, 1356, .inl (fun _ => 0)) := by rw [eM]; exact (va_up_ne _ _ (by omega)).trans (hs3 )
  have hs4 : M12x (b + 4) = .inl (g.2 1, 452, .inl (fun _ => 0)) := by rw [eM]; exact (va_up_ne _ _ (by omega)).trans (hs4 )
  have hs5 : M12x (b + 5) = .inl (g.2 2, 2, .inl (fun _ => 0)) := by rw [eM]; exact (va_up_ne _ _ (by omega)).trans (hs5 )
  have hs6 : M12x (b + 6) = .inl (g.2 1, 60, .inl (fun _ => 0)) := by rw [eM]; exact (va_up_ne _ _ (by omega)).trans (hs6 )
  refine lv_iconst (v := nI 0) hx hb dX8_init_55 (by first | rfl | decide) ?_
  refine lv_istore_n (lv' := [(1, .int (nI 0)), (0, .ref (b))]) hx hb dX8_init_56 rfl hl (by decide) rfl (fun ls hl => ?_)
  have loop_57 : ∀ (z : Nat) (kq : Nat) (M : MM) (H : Heap) (locs : List Loc) (ls : Array Slot), 6 - kq < z → kq ≤ 6 → (∀ q, q < b → M (q) = M0 q) → (M (b) = .inr (8, [.ref (b + 1), .ref (b + 2), .ref (b + 3), .int 0, .ref (b + 4), .ref (b + 5), .ref (b + 6), .int 0, .int 0, .int 0])) → (M (b + 1) = .inl (g.2 1, 226, .inl (iniL kq))) → (M (b + 2) = .inl (g.2 1, 226, .inl (fun _ => 0))) → (M (b + 3) = .inl (g.2 1, 1356, .inl (fun _ => 0))) → (M (b + 4) = .inl (g.2 1, 452, .inl (fun _ => 0))) → (M (b + 5) = .inl (g.2 2, 2, .inl (fun _ => 0))) → (M (b + 6) = .inl (g.2 1, 60, .inl (fun _ => 0))) → HX g X (b + 7) M H → va_S (upX X) s.heap H locs → lv_has ls 2 [(1, .int (nI kq)), (0, .ref (b))] → W p l e (rmC 1 6 2322) s m aa below meth c H locs 6 2322 Q (F0 m 57 ls []) := by
    intro z
    induction z with
    | zero => intro kq M H locs ls hz hk lo hb0 hs1 hs2 hs3 hs4 hs5 hs6; exact absurd hz (Nat.not_lt_zero _)
    | succ z ih =>
    intro kq M H locs ls hz hk lo hb0 hs1 hs2 hs3 hs4 hs5 hs6 hX hS hl
    refine lv_iload_n hx hb dX8_init_57 rfl (lv_at hl 0 rfl) ?_
    refine lv_bipush (v := nI 6) hx hb dX8_init_58 (by first | rfl | decide) ?_
    refine lv_icmp_ge (tgt := 119) hx hb dX8_init_60 (by decide) (fun c_9 => ?_) (fun c_9 => ?_)
    · obtain rfl : kq = 6 := Nat.le_antisymm hk (nI_le_of (by omega) (by omega) c_9)
      refine lv_aload_n hx hb dX8_init_119 rfl (lv_at hl 1 rfl) ?_
      refine m_get (ci := 8) (C := RX8) (T := TX8) (N := 10) hx hb ht ui_X8 hown hK hX.2 (⟨by omega, by omega⟩ : dm X (b + 7) (b)) hb0 rfl 0 (by decide) (ht _ uw_594) rfl dX8_init_120 ?_
      refine lv_bipush (v := nI 102) hx hb dX8_init_123 (by first | rfl | decide) ?_
      refine lv_bipush (v := nI 10) hx hb dX8_init_125 (by first | rfl | decide) ?_
      refine x_iast hx hb hK hX hS ⟨by omega, by omega⟩ hs1 (i := 102) (by omega) (by omega) dX8_init_127 (fun H locs hX hS => ?_)
      obtain ⟨M13x, eM⟩ : ∃ M1 : MM, M1 = va_up M (b + 1) (.inl (g.2 1, 226, .inl (va_up (iniL 6) 102 (nI 10)))) := ⟨_, rfl⟩
      have hX : HX g X (b + 7) M13x H := by rw [eM]; exact hX
      have lo : ∀ q, q < b → M13x (q) = M0 q := fun q hq => by rw [eM]; exact (va_up_ne _ _ (by omega)).trans (lo q hq)
      have hb0 : M13x (b) = .inr (8, [.ref (b + 1), .ref (b + 2), .ref (b + 3), .int 0, .ref (b + 4), .ref (b + 5), .ref (b + 6), .int 0, .int 0, .int 0]) := by rw [eM]; exact (va_up_ne _ _ (by omega)).trans (hb0 )
      have hs1 : M13x (b + 1) = .inl (g.2 1, 226, .inl (va_up (iniL 6) 102 (nI 10))) := by rw [eM]; exact va_up_self _ _ _
      have hs2 : M13x (b + 2) = .inl (g.2 1, 226, .inl (fun _ => 0)) := by rw [eM]; exact (va_up_ne _ _ (by omega)).trans (hs2 )
      have hs3 : M13x (b + 3) = .inl (g.2 1, 1356, .inl (fun _ => 0)) := by rw [eM]; exact (va_up_ne _ _ (by omega)).trans (hs3 )
      have hs4 : M13x (b + 4) = .inl (g.2 1, 452, .inl (fun _ => 0)) := by rw [eM]; exact (va_up_ne _ _ (by omega)).trans (hs4 )
      have hs5 : M13x (b + 5) = .inl (g.2 2, 2, .inl (fun _ => 0)) := by rw [eM]; exact (va_up_ne _ _ (by omega)).trans (hs5 )
      have hs6 : M13x (b + 6) = .inl (g.2 1, 60, .inl (fun _ => 0)) := by rw [eM]; exact (va_up_ne _ _ (by omega)).trans (hs6 )
      refine lv_aload_n hx hb dX8_init_128 rfl (lv_at hl 1 rfl) ?_
      refine m_get (ci := 8) (C := RX8) (T := TX8) (N := 10) hx hb ht ui_X8 hown hK hX.2 (⟨by omega, by omega⟩ : dm X (b + 7) (b)) hb0 rfl 0 (by decide) (ht _ uw_594) rfl dX8_init_129 ?_
      refine lv_bipush (v := nI 103) hx hb dX8_init_132 (by first | rfl | decide) ?_
      refine lv_iconst (v := nI 1) hx hb dX8_init_134 (by first | rfl | decide) ?_
      refine x_iast hx hb hK hX hS ⟨by omega, by omega⟩ hs1 (i := 103) (by omega) (by omega) dX8_init_135 (fun H locs hX hS => ?_)
      obtain ⟨M14x, eM⟩ : ∃ M1 : MM, M1 = va_up M13x (b + 1) (.inl (g.2 1, 226, .inl (va_up (va_up (iniL 6) 102 (nI 10)) 103 (nI 1)))) := ⟨_, rfl⟩
      have hX : HX g X (b + 7) M14x H := by rw [eM]; exact hX
      have lo : ∀ q, q < b → M14x (q) = M0 q := fun q hq => by rw [eM]; exact (va_up_ne _ _ (by omega)).trans (lo q hq)
      have hb0 : M14x (b) = .inr (8, [.ref (b + 1), .ref (b + 2), .ref (b + 3), .int 0, .ref (b + 4), .ref (b + 5), .ref (b + 6), .int 0, .int 0, .int 0]) := by rw [eM]; exact (va_up_ne _ _ (by omega)).trans (hb0 )
      have hs1 : M14x (b + 1) = .inl (g.2 1, 226, .inl (va_up (va_up (iniL 6) 102 (nI 10)) 103 (nI 1))) := by rw [eM]; exact va_up_self _ _ _
      have hs2 : M14x (b + 2) = .inl (g.2 1, 226, .inl (fun _ => 0)) := by rw [eM]; exact (va_up_ne _ _ (by omega)).trans (hs2 )
      have hs3 : M14x (b + 3) = .inl (g.2 1, 1356, .inl (fun _ => 0)) := by rw [eM]; exact (va_up_ne _ _ (by omega)).trans (hs3 )
      have hs4 : M14x (b + 4) = .inl (g.2 1, 452, .inl (fun _ => 0)) := by rw [eM]; exact (va_up_ne _ _ (by omega)).trans (hs4 )
      have hs5 : M14x (b + 5) = .inl (g.2 2, 2, .inl (fun _ => 0)) := by rw [eM]; exact (va_up_ne _ _ (by omega)).trans (hs5 )
      have hs6 : M14x (b + 6) = .inl (g.2 1, 60, .inl (fun _ => 0)) := by rw [eM]; exact (va_up_ne _ _ (by omega)).trans (hs6 )
      refine W.widen (k := 6) (n := 2322) (by omega) (by omega) ?_
      subst hQ
      exact x_vret hx hb hr hlk hK hX hS dX8_init_136 (⟨lo, fun _ _ _ => trivial, hb0, hs1, fun a z1 z2 z3 => by
              rcases (by omega : a = 1 ∨ a = 2 ∨ a = 3 ∨ a = 5) with rfl | rfl | rfl | rfl
              · exact hs2
              · exact hs3
              · exact hs4
              · exact hs6, hs5⟩)
    · have hk6 : kq < 6 := nI_lt_of (by omega) (by omega) c_9
      refine lv_aload_n hx hb dX8_init_63 rfl (lv_at hl 1 rfl) ?_
      refine m_get (ci := 8) (C := RX8) (T := TX8) (N := 10) hx hb ht ui_X8 hown hK hX.2 (⟨by omega, by omega⟩ : dm X (b + 7) (b)) hb0 rfl 0 (by decide) (ht _ uw_594) rfl dX8_init_64 ?_
      refine lv_bipush (v := nI 17) hx hb dX8_init_67 (by first | rfl | decide) ?_
      refine lv_iload_n hx hb dX8_init_69 rfl (lv_at hl 0 rfl) ?_
      refine lv_imul hx hb dX8_init_70 ?_
      rw [pk_mul 17 kq]
      refine lv_iconst (v := nI 0) hx hb dX8_init_71 (by first | rfl | decide) ?_
      refine lv_iadd hx hb dX8_init_72 ?_
      rw [nI_add ((17 * kq)) 0]
      refine lv_iconst (v := nI 3) hx hb dX8_init_73 (by first | rfl | decide) ?_
      refine x_iast hx hb hK hX hS ⟨by omega, by omega⟩ hs1 (i := (((17 * kq)) + 0)) (by omega) (by omega) dX8_init_74 (fun H locs hX hS => ?_)
      obtain ⟨M15x, eM⟩ : ∃ M1 : MM, M1 = va_up M (b + 1) (.inl (g.2 1, 226, .inl (va_up (iniL kq) (((17 * kq)) + 0) (nI 3)))) := ⟨_, rfl⟩
      have hX : HX g X (b + 7) M15x H := by rw [eM]; exact hX
      have lo : ∀ q, q < b → M15x (q) = M0 q := fun q hq => by rw [eM]; exact (va_up_ne _ _ (by omega)).trans (lo q hq)
      have hb0 : M15x (b) = .inr (8, [.ref (b + 1), .ref (b + 2), .ref (b + 3), .int 0, .ref (b + 4), .ref (b + 5), .ref (b + 6), .int 0, .int 0, .int 0]) := by rw [eM]; exact (va_up_ne _ _ (by omega)).trans (hb0 )
      have hs1 : M15x (b + 1) = .inl (g.2 1, 226, .inl (va_up (iniL kq) (((17 * kq)) + 0) (nI 3))) := by rw [eM]; exact va_up_self _ _ _
      have hs2 : M15x (b + 2) = .inl (g.2 1, 226, .inl (fun _ => 0)) := by rw [eM]; exact (va_up_ne _ _ (by omega)).trans (hs2 )
      have hs3 : M15x (b + 3) = .inl (g.2 1, 1356, .inl (fun _ => 0)) := by rw [eM]; exact (va_up_ne _ _ (by omega)).trans (hs3 )
      have hs4 : M15x (b + 4) = .inl (g.2 1, 452, .inl (fun _ => 0)) := by rw [eM]; exact (va_up_ne _ _ (by omega)).trans (hs4 )
      have hs5 : M15x (b + 5) = .inl (g.2 2, 2, .inl (fun _ => 0)) := by rw [eM]; exact (va_up_ne _ _ (by omega)).trans (hs5 )
      have hs6 : M15x (b + 6) = .inl (g.2 1, 60, .inl (fun _ => 0)) := by rw [eM]; exact (va_up_ne _ _ (by omega)).trans (hs6 )
      refine lv_aload_n hx hb dX8_init_75 rfl (lv_at hl 1 rfl) ?_
      refine m_get (ci := 8) (C := RX8) (T := TX8) (N := 10) hx hb ht ui_X8 hown hK hX.2 (⟨by omega, by omega⟩ : dm X (b + 7) (b)) hb0 rfl 0 (by decide) (ht _ uw_594) rfl dX8_init_76 ?_
      refine lv_bipush (v := nI 17) hx hb dX8_init_79 (by first | rfl | decide) ?_
      refine lv_iload_n hx hb dX8_init_81 rfl (lv_at hl 0 rfl) ?_
      refine lv_imul hx hb dX8_init_82 ?_
      rw [pk_mul 17 kq]
      refine lv_iconst (v := nI 1) hx hb dX8_init_83 (by first | rfl | decide) ?_
      refine lv_iadd hx hb dX8_init_84 ?_
      rw [nI_add ((17 * kq)) 1]
      refine lv_bipush (v := nI 10) hx hb dX8_init_85 (by first | rfl | decide) ?_
      refine x_iast hx hb hK hX hS ⟨by omega, by omega⟩ hs1 (i := (((17 * kq)) + 1)) (by omega) (by omega) dX8_init_87 (fun H locs hX hS => ?_)
      obtain ⟨M16x, eM⟩ : ∃ M1 : MM, M1 = va_up M15x (b + 1) (.inl (g.2 1, 226, .inl (va_up (va_up (iniL kq) (((17 * kq)) + 0) (nI 3)) (((17 * kq)) + 1) (nI 10)))) := ⟨_, rfl⟩
      have hX : HX g X (b + 7) M16x H := by rw [eM]; exact hX
      have lo : ∀ q, q < b → M16x (q) = M0 q := fun q hq => by rw [eM]; exact (va_up_ne _ _ (by omega)).trans (lo q hq)
      have hb0 : M16x (b) = .inr (8, [.ref (b + 1), .ref (b + 2), .ref (b + 3), .int 0, .ref (b + 4), .ref (b + 5), .ref (b + 6), .int 0, .int 0, .int 0]) := by rw [eM]; exact (va_up_ne _ _ (by omega)).trans (hb0 )
      have hs1 : M16x (b + 1) = .inl (g.2 1, 226, .inl (va_up (va_up (iniL kq) (((17 * kq)) + 0) (nI 3)) (((17 * kq)) + 1) (nI 10))) := by rw [eM]; exact va_up_self _ _ _
      have hs2 : M16x (b + 2) = .inl (g.2 1, 226, .inl (fun _ => 0)) := by rw [eM]; exact (va_up_ne _ _ (by omega)).trans (hs2 )
      have hs3 : M16x (b + 3) = .inl (g.2 1, 1356, .inl (fun _ => 0)) := by rw [eM]; exact (va_up_ne _ _ (by omega)).trans (hs3 )
      have hs4 : M16x (b + 4) = .inl (g.2 1, 452, .inl (fun _ => 0)) := by rw [eM]; exact (va_up_ne _ _ (by omega)).trans (hs4 )
      have hs5 : M16x (b + 5) = .inl (g.2 2, 2, .inl (fun _ => 0)) := by rw [eM]; exact (va_up_ne _ _ (by omega)).trans (hs5 )
      have hs6 : M16x (b + 6) = .inl (g.2 1, 60, .inl (fun _ => 0)) := by rw [eM]; exact (va_up_ne _ _ (by omega)).trans (hs6 )
      refine lv_aload_n hx hb dX8_init_88 rfl (lv_at hl 1 rfl) ?_
      refine m_get (ci := 8) (C := RX8) (T := TX8) (N := 10) hx hb ht ui_X8 hown hK hX.2 (⟨by omega, by omega⟩ : dm X (b + 7) (b)) hb0 rfl 0 (by decide) (ht _ uw_594) rfl dX8_init_89 ?_
      refine lv_bipush (v := nI 17) hx hb dX8_init_92 (by first | rfl | decide) ?_
      refine lv_iload_n hx hb dX8_init_94 rfl (lv_at hl 0 rfl) ?_
      refine lv_imul hx hb dX8_init_95 ?_
      rw [pk_mul 17 kq]
      refine lv_iconst (v := nI 2) hx hb dX8_init_96 (by first | rfl | decide) ?_
      refine lv_iadd hx hb dX8_init_97 ?_
      rw [nI_add ((17 * kq)) 2]
      refine lv_bipush (v := nI 100) hx hb dX8_init_98 (by first | rfl | decide) ?_
      refine x_iast hx hb hK hX hS ⟨by omega, by omega⟩ hs1 (i := (((17 * kq)) + 2)) (by omega) (by omega) dX8_init_100 (fun H locs hX hS => ?_)
      obtain ⟨M17x, eM⟩ : ∃ M1 : MM, M1 = va_up M16x (b + 1) (.inl (g.2 1, 226, .inl (va_up (va_up (va_up (iniL kq) (((17 * kq)) + 0) (nI 3)) (((17 * kq)) + 1) (nI 10)) (((17 * kq)) + 2) (nI 100)))) := ⟨_, rfl⟩
      have hX : HX g X (b + 7) M17x H := by rw [eM]; exact hX
      have lo : ∀ q, q < b → M17x (q) = M0 q := fun q hq => by rw [eM]; exact (va_up_ne _ _ (by omega)).trans (lo q hq)
      have hb0 : M17x (b) = .inr (8, [.ref (b + 1), .ref (b + 2), .ref (b + 3), .int 0, .ref (b + 4), .ref (b + 5), .ref (b + 6), .int 0, .int 0, .int 0]) := by rw [eM]; exact (va_up_ne _ _ (by omega)).trans (hb0 )
      have hs1 : M17x (b + 1) = .inl (g.2 1, 226, .inl (va_up (va_up (va_up (iniL kq) (((17 * kq)) + 0) (nI 3)) (((17 * kq)) + 1) (nI 10)) (((17 * kq)) + 2) (nI 100))) := by rw [eM]; exact va_up_self _ _ _
      have hs2 : M17x (b + 2) = .inl (g.2 1, 226, .inl (fun _ => 0)) := by rw [eM]; exact (va_up_ne _ _ (by omega)).trans (hs2 )
      have hs3 : M17x (b + 3) = .inl (g.2 1, 1356, .inl (fun _ => 0)) := by rw [eM]; exact (va_up_ne _ _ (by omega)).trans (hs3 )
      have hs4 : M17x (b + 4) = .inl (g.2 1, 452, .inl (fun _ => 0)) := by rw [eM]; exact (va_up_ne _ _ (by omega)).trans (hs4 )
      have hs5 : M17x (b + 5) = .inl (g.2 2, 2, .inl (fun _ => 0)) := by rw [eM]; exact (va_up_ne _ _ (by omega)).trans (hs5 )
      have hs6 : M17x (b + 6) = .inl (g.2 1, 60, .inl (fun _ => 0)) := by rw [eM]; exact (va_up_ne _ _ (by omega)).trans (hs6 )
      refine lv_aload_n hx hb dX8_init_101 rfl (lv_at hl 1 rfl) ?_
      refine m_get (ci := 8) (C := RX8) (T := TX8) (N := 10) hx hb ht ui_X8 hown hK hX.2 (⟨by omega, by omega⟩ : dm X (b + 7) (b)) hb0 rfl 0 (by decide) (ht _ uw_594) rfl dX8_init_102 ?_
      refine lv_bipush (v := nI 17) hx hb dX8_init_105 (by first | rfl | decide) ?_
      refine lv_iload_n hx hb dX8_init_107 rfl (lv_at hl 0 rfl) ?_
      refine lv_imul hx hb dX8_init_108 ?_
      rw [pk_mul 17 kq]
      refine lv_iconst (v := nI 3) hx hb dX8_init_109 (by first | rfl | decide) ?_
      refine lv_iadd hx hb dX8_init_110 ?_
      rw [nI_add ((17 * kq)) 3]
      refine lv_iload_n hx hb dX8_init_111 rfl (lv_at hl 0 rfl) ?_
      refine x_iast hx hb hK hX hS ⟨by omega, by omega⟩ hs1 (i := (((17 * kq)) + 3)) (by omega) (by omega) dX8_init_112 (fun H locs hX hS => ?_)
      obtain ⟨M18x, eM⟩ : ∃ M1 : MM, M1 = va_up M17x (b + 1) (.inl (g.2 1, 226, .inl (va_up (va_up (va_up (va_up (iniL kq) (((17 * kq)) + 0) (nI 3)) (((17 * kq)) + 1) (nI 10)) (((17 * kq)) + 2) (nI 100)) (((17 * kq)) + 3) (nI kq)))) := ⟨_, rfl⟩
      have hX : HX g X (b + 7) M18x H := by rw [eM]; exact hX
      have lo : ∀ q, q < b → M18x (q) = M0 q := fun q hq => by rw [eM]; exact (va_up_ne _ _ (by omega)).trans (lo q hq)
      have hb0 : M18x (b) = .inr (8, [.ref (b + 1), .ref (b + 2), .ref (b + 3), .int 0, .ref (b + 4), .ref (b + 5), .ref (b + 6), .int 0, .int 0, .int 0]) := by rw [eM]; exact (va_up_ne _ _ (by omega)).trans (hb0 )
      have hs1 : M18x (b + 1) = .inl (g.2 1, 226, .inl (va_up (va_up (va_up (va_up (iniL kq) (((17 * kq)) + 0) (nI 3)) (((17 * kq)) + 1) (nI 10)) (((17 * kq)) + 2) (nI 100)) (((17 * kq)) + 3) (nI kq))) := by rw [eM]; exact va_up_self _ _ _
      have hs2 : M18x (b + 2) = .inl (g.2 1, 226, .inl (fun _ => 0)) := by rw [eM]; exact (va_up_ne _ _ (by omega)).trans (hs2 )
      have hs3 : M18x (b + 3) = .inl (g.2 1, 1356, .inl (fun _ => 0)) := by rw [eM]; exact (va_up_ne _ _ (by omega)).trans (hs3 )
      have hs4 : M18x (b + 4) = .inl (g.2 1, 452, .inl (fun _ => 0)) := by rw [eM]; exact (va_up_ne _ _ (by omega)).trans (hs4 )
      have hs5 : M18x (b + 5) = .inl (g.2 2, 2, .inl (fun _ => 0)) := by rw [eM]; exact (va_up_ne _ _ (by omega)).trans (hs5 )
      have hs6 : M18x (b + 6) = .inl (g.2 1, 60, .inl (fun _ => 0)) := by rw [eM]; exact (va_up_ne _ _ (by omega)).trans (hs6 )
      refine lv_iinc (v := nI (kq + 1)) (lv' := [(1, .int (nI (kq + 1))), (0, .ref (b))]) hx hb dX8_init_113 hl (k := 0) rfl (nI_1 _) (by decide) rfl (fun ls hl => ?_)
      refine lv_goto (tgt := 57) hx hb dX8_init_116 (by decide) ?_
      exact ih (kq + 1) _ _ _ _ (by omega) (by omega) lo hb0 hs1 hs2 hs3 hs4 hs5 hs6 hX hS hl
  exact loop_57 7 0 _ _ _ _ (by omega) (by omega) lo hb0 hs1 hs2 hs3 hs4 hs5 hs6 hX hS hl
