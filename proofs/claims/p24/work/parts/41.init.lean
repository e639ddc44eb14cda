def iniG (i : Nat) : Nat → Int32 := fun k => if k = 0 then nI 3 else if k = 1 then nI 10 else if k = 2 then nI 100 else if k = 3 then nI i else 0
def iniV : VV := (fun k => if k = 0 then nI 10 else if k = 1 then nI 1 else 0, iniG, fun _ _ => 0)
theorem arr_0 (F : Nat → Nat) : (fun i => if i < 0 then some (F i) else none) = fun _ : Nat => (none : Option Nat) := by
  funext i
  exact if_neg (Nat.not_lt_zero i)
theorem arr_up (F : Nat → Nat) (k : Nat) : va_up (fun i => if i < k then some (F i) else none) k (some (F k)) = fun i => if i < k + 1 then some (F i) else none := by
  funext i
  unfold va_up
  dsimp only
  by_cases h : i = k
  · rw [if_pos h, if_pos (by omega), h]
  · rw [if_neg h]
    by_cases h2 : i < k
    · rw [if_pos h2, if_pos (by omega)]
    · rw [if_neg h2, if_neg (by omega)]
theorem arrE_up {M : MM} {a n k : Nat} {cA : ClassId} {F : Nat → Nat} (h : M a = .inl (cA, n, .inr (.inr (.inr (.inr (va_up (fun i => if i < k then some (F i) else none) k (some (F k)))))))) : M a = .inl (cA, n, .inr (.inr (.inr (.inr (fun i => if i < k + 1 then some (F i) else none))))) := by rw [h, arr_up]
theorem arrE_0 {M : MM} {a n : Nat} {cA : ClassId} (F : Nat → Nat) (h : M a = .inl (cA, n, .inr (.inr (.inr (.inr (fun _ => none)))))) : M a = .inl (cA, n, .inr (.inr (.inr (.inr (fun i => if i < 0 then some (F i) else none))))) := by rw [h, arr_0]
theorem HX.fin {g : GG} {X N : Nat} {M : MM} {H : Heap} (h : HX g X N M H) {a : Nat} (ha : dm X N a) {cA : ClassId} {n : Nat} {f f' : Nat → Option Nat} (he : M a = .inl (cA, n, .inr (.inr (.inr (.inr f))))) (hf : ∀ i, i < n → f i = f' i) : HX g X N (va_up M a (.inl (cA, n, .inr (.inr (.inr (.inr f')))))) H := by
  refine ⟨h.1, h.2.put ?_ (fun _ _ => rfl)⟩
  have h0 := h.2 a ha
  rw [he] at h0
  have h1 : H[a]? = some (vp_cell cA (n, .inr (.inr (.inr (.inr f))))) := h0
  show H[a]? = some (vp_cell cA (n, .inr (.inr (.inr (.inr f')))))
  rw [h1, vp_cell_q, vp_cell_q]
  unfold arrV
  congr 3
  funext j
  show va_rf (f j.val) = va_rf (f' j.val)
  rw [hf j.val j.isLt]
theorem rv_obj {g : GG} {A : Nat → Prop} {M : MM} {b : Nat} {π : Nat → Nat} {v : VV} (h : RepV g A M b π v) : M b = wE b v.1 ∧ True := ⟨h.2.2.1, trivial⟩
theorem RepV.dom {g : GG} {A A' : Nat → Prop} {M : MM} {b : Nat} {π : Nat → Nat} {v : VV} (h : RepV g A M b π v) (hA : ∀ q, b ≤ q → q < b + 35 → A' q) : RepV g A' M b π v := ⟨hA, h.2⟩
set_option maxHeartbeats 4000000 in
set_option maxRecDepth 100000 in
/-- a page -/
theorem k_X4_init (l : Launch) (g : GG) (X b : Nat) (M0 : MM) (hXb : X ≤ b) : Met l yX4_init (Uw yX4_init cX4_init 1 (Option.none : Option ClassFile.FieldType)) (rmC 1 0 0) (PreX [.ref b] g X (b + 1) M0) (PosX (fun M1 => M1 = M0) g X (b + 1)) 0 0 (upX X) := by
  refine mk_MetX (own := RX4) rfl rfl (by decide) (Nat.le_of_ble_eq_true rfl) ?_
  intro p e s m below meth c ls aa Q haa hQ hx hb hr hlk hml hown hts hK hNW hX hS hl hnm
  have ht : ∀ w ∈ lw_good, w.before _ s = true := fun w h => hts w (List.mem_cons_of_mem _ h)
  have hl : lv_has ls 1 [(0, .ref b)] := hl
  have lo : ∀ q, q < b → M0 q = M0 q := fun _ _ => rfl
  refine lv_aload_n hx hb dX4_init_0 rfl (lv_at hl 0 rfl) ?_
  refine W.objInit hx hb hown (ht _ uw_72) (ht _ uw_50) (ht _ uw_51) rfl (by rw [hml]; exact hl.1) rfl dX4_init_1 (Nat.le_of_ble_eq_true rfl) (Nat.le_of_ble_eq_true rfl) ?_
  refine W.widen (k := 0) (n := 0) (by omega) (by omega) ?_
  subst hQ
  exact x_vret hx hb hr hlk hK hX hS dX4_init_4 (rfl)

set_option maxHeartbeats 4000000 in
set_option maxRecDepth 100000 in
/-- a runner -/
theorem k_X5_init (l : Launch) (g : GG) (X b : Nat) (M0 : MM) (hXb : X ≤ b) : Met l yX5_init (Uw yX5_init cX5_init 1 (Option.none : Option ClassFile.FieldType)) (rmC 1 0 0) (PreX [.ref b] g X (b + 1) M0) (PosX (fun M1 => M1 = M0) g X (b + 1)) 0 0 (upX X) := by
  refine mk_MetX (own := RX5) rfl rfl (by decide) (Nat.le_of_ble_eq_true rfl) ?_
  intro p e s m below meth c ls aa Q haa hQ hx hb hr hlk hml hown hts hK hNW hX hS hl hnm
  have ht : ∀ w ∈ lw_good, w.before _ s = true := fun w h => hts w (List.mem_cons_of_mem _ h)
  have hl : lv_has ls 1 [(0, .ref b)] := hl
  have lo : ∀ q, q < b → M0 q = M0 q := fun _ _ => rfl
  refine lv_aload_n hx hb dX5_init_0 rfl (lv_at hl 0 rfl) ?_
  refine W.objInit hx hb hown (ht _ uw_162) (ht _ uw_50) (ht _ uw_51) rfl (by rw [hml]; exact hl.1) rfl dX5_init_1 (Nat.le_of_ble_eq_true rfl) (Nat.le_of_ble_eq_true rfl) ?_
  refine W.widen (k := 0) (n := 0) (by omega) (by omega) ?_
  subst hQ
  exact x_vret hx hb hr hlk hK hX hS dX5_init_4 (rfl)

set_option maxHeartbeats 4000000 in
set_option maxRecDepth 100000 in
/-- a gauge -/
theorem k_X0_init (l : Launch) (g : GG) (X b : Nat) (M0 : MM) (x : Int32) (hb0 : M0 (b) = .inr (0, [.int 0, .int 0, .int 0, .int 0, .int 0, .int 0, .int 0, .int 0, .null])) (hXb : X ≤ b) : Met l yX0_init (Uw yX0_init cX0_init 2 (Option.none : Option ClassFile.FieldType)) (rmC 2 1 8) (PreX [.ref b, .int x] g X (b + 1) M0) (PosX (fun M1 => (∀ q, q < b → M1 q = M0 q) ∧ M1 b = .inr (0, [.int (nI 3), .int (nI 10), .int (nI 100), .int x, .int 0, .int 0, .int 0, .int 0, .ref (b + 1)]) ∧ M1 (b + 1) = .inr (4, [.int 0, .int 0, .int 0, .int 0, .int 0, .int 0, .int 0, .int 0])) g X (b + 2)) 1 8 (upX X) := by
  refine mk_MetX (own := RX0) rfl rfl (by decide) (Nat.le_of_ble_eq_true rfl) ?_
  intro p e s m below meth c ls aa Q haa hQ hx hb hr hlk hml hown hts hK hNW hX hS hl hnm
  have ht : ∀ w ∈ lw_good, w.before _ s = true := fun w h => hts w (List.mem_cons_of_mem _ h)
  have hl : lv_has ls 2 [(0, .ref b), (1, .int x)] := hl
  have lo : ∀ q, q < b → M0 q = M0 q := fun _ _ => rfl
  refine lv_aload_n hx hb dX0_init_0 rfl (lv_at hl 0 rfl) ?_
  refine W.objInit hx hb hown (ht _ uw_66) (ht _ uw_50) (ht _ uw_51) rfl (by rw [hml]; exact hl.1) rfl dX0_init_1 (Nat.le_of_ble_eq_true rfl) (Nat.le_of_ble_eq_true rfl) ?_
  refine lv_aload_n hx hb dX0_init_4 rfl (lv_at hl 0 rfl) ?_
  refine lv_iconst (v := nI 3) hx hb dX0_init_5 (by first | rfl | decide) ?_
  refine x_put (ci := 0) (C := RX0) (T := TX0) (n := 9) hx hb ht ui_X0 tyX0 tyX0_ok nmX0 hown hK hX hS ⟨by omega, by omega⟩ hb0 rfl 0 (by decide) (ht _ uw_115) rfl rfl rfl (Nat.le_of_ble_eq_true rfl) dX0_init_6 (fun H locs hX hS => ?_)
  obtain ⟨M1x, eM⟩ : ∃ M1 : MM, M1 = va_up M0 (b) (.inr (0, [.int (nI 3), .int 0, .int 0, .int 0, .int 0, .int 0, .int 0, .int 0, .null])) := ⟨_, rfl⟩
  have hX : HX g X (b + 1) M1x H := by rw [eM]; exact hX
  have lo : ∀ q, q < b → M1x (q) = M0 q := fun q hq => by rw [eM]; exact (va_up_ne _ _ (by omega)).trans (lo q hq)
  have hb0 : M1x (b) = .inr (0, [.int (nI 3), .int 0, .int 0, .int 0, .int 0, .int 0, .int 0, .int 0, .null]) := by rw [eM]; exact va_up_self _ _ _
  refine lv_aload_n hx hb dX0_init_9 rfl (lv_at hl 0 rfl) ?_
  refine lv_bipush (v := nI 10) hx hb dX0_init_10 (by first | rfl | decide) ?_
  refine x_put (ci := 0) (C := RX0) (T := TX0) (n := 9) hx hb ht ui_X0 tyX0 tyX0_ok nmX0 hown hK hX hS ⟨by omega, by omega⟩ hb0 rfl 1 (by decide) (ht _ uw_118) rfl rfl rfl (Nat.le_of_ble_eq_true rfl) dX0_init_12 (fun H locs hX hS => ?_)
  obtain ⟨M2x, eM⟩ : ∃ M1 : MM, M1 = va_up M1x (b) (.inr (0, [.int (nI 3), .int (nI 10), .int 0, .int 0, .int 0, .int 0, .int 0, .int 0, .null])) := ⟨_, rfl⟩
  have hX : HX g X (b + 1) M2x H := by rw [eM]; exact hX
  have lo : ∀ q, q < b → M2x (q) = M0 q := fun q hq => by rw [eM]; exact (va_up_ne _ _ (by omega)).trans (lo q hq)
  have hb0 : M2x (b) = .inr (0, [.int (nI 3), .int (nI 10), .int 0, .int 0, .int 0, .int 0, .int 0, .int 0, .null]) := by rw [eM]; exact va_up_self _ _ _
  refine lv_aload_n hx hb dX0_init_15 rfl (lv_at hl 0 rfl) ?_
  refine lv_bipush (v := nI 100) hx hb dX0_init_16 (by first | rfl | decide) ?_
  refine x_put (ci := 0) (C := RX0) (T := TX0) (n := 9) hx hb ht ui_X0 tyX0 tyX0_ok nmX0 hown hK hX hS ⟨by omega, by omega⟩ hb0 rfl 2 (by decide) (ht _ uw_121) rfl rfl rfl (Nat.le_of_ble_eq_true rfl) dX0_init_18 (fun H locs hX hS => ?_)
  obtain ⟨M3x, eM⟩ : ∃ M1 : MM, M1 = va_up M2x (b) (.inr (0, [.int (nI 3), .int (nI 10), .int (nI 100), .int 0, .int 0, .int 0, .int 0, .int 0, .null])) := ⟨_, rfl⟩
  have hX : HX g X (b + 1) M3x H := by rw [eM]; exact hX
  have lo : ∀ q, q < b → M3x (q) = M0 q := fun q hq => by rw [eM]; exact (va_up_ne _ _ (by omega)).trans (lo q hq)
  have hb0 : M3x (b) = .inr (0, [.int (nI 3), .int (nI 10), .int (nI 100), .int 0, .int 0, .int 0, .int 0, .int 0, .null]) := by rw [eM]; exact va_up_self _ _ _
  refine lv_aload_n hx hb dX0_init_21 rfl (lv_at hl 0 rfl) ?_
  refine x_new (ci := 4) (fs := [.int 0, .int 0, .int 0, .int 0, .int 0, .int 0, .int 0, .int 0]) (C := RX4) (T := TX4) (n := 8) hx hb ht ui_X4 tyX4 tyX4_ok hown (ht _ uw_67) (ht _ uw_68) (ht _ uw_37) hK hX hS rfl (fun j hj => by rcases (by omega : j = 0 ∨ j = 1 ∨ j = 2 ∨ j = 3 ∨ j = 4 ∨ j = 5 ∨ j = 6 ∨ j = 7) with rfl | rfl | rfl | rfl | rfl | rfl | rfl | rfl <;> rfl) (Nat.le_of_ble_eq_true rfl) (Nat.le_of_ble_eq_true rfl) dX0_init_22 (fun H hX hS => ?_)
  obtain ⟨M4x, eM⟩ : ∃ M1 : MM, M1 = va_up M3x (b + 1) (.inr (4, [.int 0, .int 0, .int 0, .int 0, .int 0, .int 0, .int 0, .int 0])) := ⟨_, rfl⟩
  have hX : HX g X (b + 2) M4x H := by rw [eM]; exact hX
  have lo : ∀ q, q < b → M4x (q) = M0 q := fun q hq => by rw [eM]; exact (va_up_ne _ _ (by omega)).trans (lo q hq)
  have hb0 : M4x (b) = .inr (0, [.int (nI 3), .int (nI 10), .int (nI 100), .int 0, .int 0, .int 0, .int 0, .int 0, .null]) := by rw [eM]; exact (va_up_ne _ _ (by omega)).trans (hb0 )
  have hpg : M4x (b + 1) = .inr (4, [.int 0, .int 0, .int 0, .int 0, .int 0, .int 0, .int 0, .int 0]) := by rw [eM]; exact va_up_self _ _ _
  refine lv_dup hx hb dX0_init_25 rfl ?_
  refine x_callN (As := []) (rest := [.ref (b + 1), .ref (b)]) ⟨hx, hb, hml, hown, ht⟩ (k_X4_init l g X (b + 1) M4x (by omega)) ⟨va_cnB 0 ht (gUI uw_71) rfl rfl rfl hNW.1 (ht _ uw_37) (by decide +kernel) ⟨by decide, by decide⟩, rfl, (ht _ uw_70)⟩ hK hNW hX hS rfl hl.1 rfl (Nat.le_of_ble_eq_true rfl) dX0_init_26 ⟨Nat.le_of_ble_eq_true rfl, Nat.le_of_ble_eq_true rfl⟩ (fun M5x H locs hp hX hS => ?_)
  have lo1 : ∀ q, q < b + 1 → M5x q = M4x q := fun q _ => by rw [hp]
  have lo : ∀ q, q < b → M5x (q) = M0 q := fun q hq => (lo1 _ (by omega)).trans (lo q hq)
  have hb0 : M5x (b) = .inr (0, [.int (nI 3), .int (nI 10), .int (nI 100), .int 0, .int 0, .int 0, .int 0, .int 0, .null]) := (lo1 _ (by omega)).trans (hb0 )
  have hpg : M5x (b + 1) = .inr (4, [.int 0, .int 0, .int 0, .int 0, .int 0, .int 0, .int 0, .int 0]) := by rw [hp]; exact hpg
  have hX : HX g X (b + 2) M5x H := hX
  refine x_putF (ci := 0) (C := RX0) (T := TX0) (n := 9) hx hb ht ui_X0 tyX0 tyX0_ok nmX0 hown hK hX hS ⟨by omega, by omega⟩ hb0 rfl 8 (by decide) (ht _ uw_136) rfl (hnm.trans rfl) rfl rfl rfl (Nat.le_of_ble_eq_true rfl) dX0_init_29 (fun H locs hX hS => ?_)
  obtain ⟨M6x, eM⟩ : ∃ M1 : MM, M1 = va_up M5x (b) (.inr (0, [.int (nI 3), .int (nI 10), .int (nI 100), .int 0, .int 0, .int 0, .int 0, .int 0, .ref (b + 1)])) := ⟨_, rfl⟩
  have hX : HX g X (b + 2) M6x H := by rw [eM]; exact hX
  have lo : ∀ q, q < b → M6x (q) = M0 q := fun q hq => by rw [eM]; exact (va_up_ne _ _ (by omega)).trans (lo q hq)
  have hb0 : M6x (b) = .inr (0, [.int (nI 3), .int (nI 10), .int (nI 100), .int 0, .int 0, .int 0, .int 0, .int 0, .ref (b + 1)]) := by rw [eM]; exact va_up_self _ _ _
  have hpg : M6x (b + 1) = .inr (4, [.int 0, .int 0, .int 0, .int 0, .int 0, .int 0, .int 0, .int 0]) := by rw [eM]; exact (va_up_ne _ _ (by omega)).trans (hpg )
  refine lv_aload_n hx hb dX0_init_32 rfl (lv_at hl 0 rfl) ?_
  refine lv_iload_n hx hb dX0_init_33 rfl (lv_at hl 1 rfl) ?_
  refine x_put (ci := 0) (C := RX0) (T := TX0) (n := 9) hx hb ht ui_X0 tyX0 tyX0_ok nmX0 hown hK hX hS ⟨by omega, by omega⟩ hb0 rfl 3 (by decide) (ht _ uw_124) rfl rfl rfl (Nat.le_of_ble_eq_true rfl) dX0_init_34 (fun H locs hX hS => ?_)
  obtain ⟨M7x, eM⟩ : ∃ M1 : MM, M1 = va_up M6x (b) (.inr (0, [.int (nI 3), .int (nI 10), .int (nI 100), .int x, .int 0, .int 0, .int 0, .int 0, .ref (b + 1)])) := ⟨_, rfl⟩
  have hX : HX g X (b + 2) M7x H := by rw [eM]; exact hX
  have lo : ∀ q, q < b → M7x (q) = M0 q := fun q hq => by rw [eM]; exact (va_up_ne _ _ (by omega)).trans (lo q hq)
  have hb0 : M7x (b) = .inr (0, [.int (nI 3), .int (nI 10), .int (nI 100), .int x, .int 0, .int 0, .int 0, .int 0, .ref (b + 1)]) := by rw [eM]; exact va_up_self _ _ _
  have hpg : M7x (b + 1) = .inr (4, [.int 0, .int 0, .int 0, .int 0, .int 0, .int 0, .int 0, .int 0]) := by rw [eM]; exact (va_up_ne _ _ (by omega)).trans (hpg )
  refine W.widen (k := 1) (n := 8) (by omega) (by omega) ?_
  subst hQ
  exact x_vret hx hb hr hlk hK hX hS dX0_init_37 (⟨lo, hb0, hpg⟩)

set_option maxHeartbeats 4000000 in
set_option maxRecDepth 100000 in
/-- a valley -/
theorem k_X6_init (l : Launch) (g : GG) (X b : Nat) (M0 : MM) (hb0 : M0 (b) = .inr (6, [.int 0, .int 0, .int 0, .int 0, .null, .null])) (hXb : X ≤ b) : Met l yX6_init (Uw yX6_init cX6_init 2 (Option.none : Option ClassFile.FieldType)) (rmC 3 34 228) (PreX [.ref b] g X (b + 1) M0) (PosX (fun M1 => (∀ q, q < b → M1 q = M0 q) ∧ RepV g (fun _ => True) M1 b id iniV) g X (b + 35)) 34 228 (upX X) := by
  refine mk_MetX (own := RX6) rfl rfl (by decide) (Nat.le_of_ble_eq_true rfl) ?_
  intro p e s m below meth c ls aa Q haa hQ hx hb hr hlk hml hown hts hK hNW hX hS hl hnm
  have ht : ∀ w ∈ lw_good, w.before _ s = true := fun w h => hts w (List.mem_cons_of_mem _ h)
  have hl : lv_has ls 2 [(0, .ref b)] := hl
  have lo : ∀ q, q < b → M0 q = M0 q := fun _ _ => rfl
  refine lv_aload_n hx hb dX6_init_0 rfl (lv_at hl 0 rfl) ?_
  refine W.objInit hx hb hown (ht _ uw_57) (ht _ uw_50) (ht _ uw_51) rfl (by rw [hml]; exact hl.1) rfl dX6_init_1 (Nat.le_of_ble_eq_true rfl) (Nat.le_of_ble_eq_true rfl) ?_
  refine lv_aload_n hx hb dX6_init_4 rfl (lv_at hl 0 rfl) ?_
  refine lv_bipush (v := nI 10) hx hb dX6_init_5 (by first | rfl | decide) ?_
  refine x_put (ci := 6) (C := RX6) (T := TX6) (n := 6) hx hb ht ui_X6 tyX6 tyX6_ok nmX6 hown hK hX hS ⟨by omega, by omega⟩ hb0 rfl 0 (by decide) (ht _ uw_188) rfl rfl rfl (Nat.le_of_ble_eq_true rfl) dX6_init_7 (fun H locs hX hS => ?_)
  obtain ⟨M1x, eM⟩ : ∃ M1 : MM, M1 = va_up M0 (b) (.inr (6, [.int (nI 10), .int 0, .int 0, .int 0, .null, .null])) := ⟨_, rfl⟩
  have hX : HX g X (b + 1) M1x H := by rw [eM]; exact hX
  have lo : ∀ q, q < b → M1x (q) = M0 q := fun q hq => by rw [eM]; exact (va_up_ne _ _ (by omega)).trans (lo q hq)
  have hb0 : M1x (b) = .inr (6, [.int (nI 10), .int 0, .int 0, .int 0, .null, .null]) := by rw [eM]; exact va_up_self _ _ _
  refine lv_aload_n hx hb dX6_init_10 rfl (lv_at hl 0 rfl) ?_
  refine lv_iconst (v := nI 1) hx hb dX6_init_11 (by first | rfl | decide) ?_
  refine x_put (ci := 6) (C := RX6) (T := TX6) (n := 6) hx hb ht ui_X6 tyX6 tyX6_ok nmX6 hown hK hX hS ⟨by omega, by omega⟩ hb0 rfl 1 (by decide) (ht _ uw_190) rfl rfl rfl (Nat.le_of_ble_eq_true rfl) dX6_init_12 (fun H locs hX hS => ?_)
  obtain ⟨M2x, eM⟩ : ∃ M1 : MM, M1 = va_up M1x (b) (.inr (6, [.int (nI 10), .int (nI 1), .int 0, .int 0, .null, .null])) := ⟨_, rfl⟩
  have hX : HX g X (b + 1) M2x H := by rw [eM]; exact hX
  have lo : ∀ q, q < b → M2x (q) = M0 q := fun q hq => by rw [eM]; exact (va_up_ne _ _ (by omega)).trans (lo q hq)
  have hb0 : M2x (b) = .inr (6, [.int (nI 10), .int (nI 1), .int 0, .int 0, .null, .null]) := by rw [eM]; exact va_up_self _ _ _
  refine lv_aload_n hx hb dX6_init_15 rfl (lv_at hl 0 rfl) ?_
  refine lv_bipush (v := nI 6) hx hb dX6_init_16 (by first | rfl | decide) ?_
  refine x_newq (C := RX0) hx hb hown (ht _ uw_58) hNW.2.2.2.1 hK hX hS 3 rfl (nI_pos (by omega)) (nI_clamp (by omega)) (Nat.le_of_ble_eq_true rfl) (Nat.le_of_ble_eq_true rfl) (Nat.le_of_ble_eq_true rfl) dX6_init_18 (fun H hX hS => ?_)
  obtain ⟨M3x, eM⟩ : ∃ M1 : MM, M1 = va_up M2x (b + 1) (.inl (g.2 3, 6, .inr (.inr (.inr (.inr (fun _ => none)))))) := ⟨_, rfl⟩
  have hX : HX g X (b + 2) M3x H := by rw [eM]; exact hX
  have lo : ∀ q, q < b → M3x (q) = M0 q := fun q hq => by rw [eM]; exact (va_up_ne _ _ (by omega)).trans (lo q hq)
  have hb0 : M3x (b) = .inr (6, [.int (nI 10), .int (nI 1), .int 0, .int 0, .null, .null]) := by rw [eM]; exact (va_up_ne _ _ (by omega)).trans (hb0 )
  have hga : M3x (b + 1) = .inl (g.2 3, 6, .inr (.inr (.inr (.inr (fun _ => none))))) := by rw [eM]; exact va_up_self _ _ _
  refine x_putF (ci := 6) (C := RX6) (T := TX6) (n := 6) hx hb ht ui_X6 tyX6 tyX6_ok nmX6 hown hK hX hS ⟨by omega, by omega⟩ hb0 rfl 4 (by decide) (ht _ uw_196) rfl (hnm.trans rfl) rfl rfl rfl (Nat.le_of_ble_eq_true rfl) dX6_init_21 (fun H locs hX hS => ?_)
  obtain ⟨M4x, eM⟩ : ∃ M1 : MM, M1 = va_up M3x (b) (.inr (6, [.int (nI 10), .int (nI 1), .int 0, .int 0, .ref (b + 1), .null])) := ⟨_, rfl⟩
  have hX : HX g X (b + 2) M4x H := by rw [eM]; exact hX
  have lo : ∀ q, q < b → M4x (q) = M0 q := fun q hq => by rw [eM]; exact (va_up_ne _ _ (by omega)).trans (lo q hq)
  have hb0 : M4x (b) = .inr (6, [.int (nI 10), .int (nI 1), .int 0, .int 0, .ref (b + 1), .null]) := by rw [eM]; exact va_up_self _ _ _
  have hga : M4x (b + 1) = .inl (g.2 3, 6, .inr (.inr (.inr (.inr (fun _ => none))))) := by rw [eM]; exact (va_up_ne _ _ (by omega)).trans (hga )
  refine lv_aload_n hx hb dX6_init_24 rfl (lv_at hl 0 rfl) ?_
  refine lv_bipush (v := nI 20) hx hb dX6_init_25 (by first | rfl | decide) ?_
  refine x_newq (C := RX5) hx hb hown (ht _ uw_60) hNW.2.2.2.2.1 hK hX hS 4 rfl (nI_pos (by omega)) (nI_clamp (by omega)) (Nat.le_of_ble_eq_true rfl) (Nat.le_of_ble_eq_true rfl) (Nat.le_of_ble_eq_true rfl) dX6_init_27 (fun H hX hS => ?_)
  obtain ⟨M5x, eM⟩ : ∃ M1 : MM, M1 = va_up M4x (b + 2) (.inl (g.2 4, 20, .inr (.inr (.inr (.inr (fun _ => none)))))) := ⟨_, rfl⟩
  have hX : HX g X (b + 3) M5x H := by rw [eM]; exact hX
  have lo : ∀ q, q < b → M5x (q) = M0 q := fun q hq => by rw [eM]; exact (va_up_ne _ _ (by omega)).trans (lo q hq)
  have hb0 : M5x (b) = .inr (6, [.int (nI 10), .int (nI 1), .int 0, .int 0, .ref (b + 1), .null]) := by rw [eM]; exact (va_up_ne _ _ (by omega)).trans (hb0 )
  have hga : M5x (b + 1) = .inl (g.2 3, 6, .inr (.inr (.inr (.inr (fun _ => none))))) := by rw [eM]; exact (va_up_ne _ _ (by omega)).trans (hga )
  have hra : M5x (b + 2) = .inl (g.2 4, 20, .inr (.inr (.inr (.inr (fun _ => none))))) := by rw [eM]; exact va_up_self _ _ _
  refine x_putF (ci := 6) (C := RX6) (T := TX6) (n := 6) hx hb ht ui_X6 tyX6 tyX6_ok nmX6 hown hK hX hS ⟨by omega, by omega⟩ hb0 rfl 5 (by decide) (ht _ uw_198) rfl (hnm.trans rfl) rfl rfl rfl (Nat.le_of_ble_eq_true rfl) dX6_init_30 (fun H locs hX hS => ?_)
  obtain ⟨M6x, eM⟩ : ∃ M1 : MM, M1 = va_up M5x (b) (.inr (6, [.int (nI 10), .int (nI 1), .int 0, .int 0, .ref (b + 1), .ref (b + 2)])) := ⟨_, rfl⟩
  have hX : HX g X (b + 3) M6x H := by rw [eM]; exact hX
  have lo : ∀ q, q < b → M6x (q) = M0 q := fun q hq => by rw [eM]; exact (va_up_ne _ _ (by omega)).trans (lo q hq)
  have hb0 : M6x (b) = .inr (6, [.int (nI 10), .int (nI 1), .int 0, .int 0, .ref (b + 1), .ref (b + 2)]) := by rw [eM]; exact va_up_self _ _ _
  have hga : M6x (b + 1) = .inl (g.2 3, 6, .inr (.inr (.inr (.inr (fun _ => none))))) := by rw [eM]; exact (va_up_ne _ _ (by omega)).trans (hga )
  have hra : M6x (b + 2) = .inl (g.2 4, 20, .inr (.inr (.inr (.inr (fun _ => none))))) := by rw [eM]; exact (va_up_ne _ _ (by omega)).trans (hra )
  refine lv_iconst (v := nI 0) hx hb dX6_init_33 (by first | rfl | decide) ?_
  refine lv_istore_n (lv' := [(1, .int (nI 0)), (0, .ref (b))]) hx hb dX6_init_34 rfl hl (by decide) rfl (fun ls hl => ?_)
  have loop_35 : ∀ (z : Nat) (kq : Nat) (M : MM) (H : Heap) (locs : List Loc) (ls : Array Slot), 6 - kq < z → kq ≤ 6 → (∀ q, q < b → M (q) = M0 q) → (M (b) = .inr (6, [.int (nI 10), .int (nI 1), .int 0, .int 0, .ref (b + 1), .ref (b + 2)])) → (M (b + 1) = .inl (g.2 3, 6, .inr (.inr (.inr (.inr (fun i => if i < kq then some (b + 3 + 2 * i) else none)))))) → (M (b + 2) = .inl (g.2 4, 20, .inr (.inr (.inr (.inr (fun _ => none)))))) → (∀ i, i < kq → M (b + 3 + 2 * i) = gE b i (iniG i)) → (∀ i, i < kq → M (b + 4 + 2 * i) = pE (iniG i)) → HX g X (b + 3 + 2 * kq) M H → va_S (upX X) s.heap H locs → lv_has ls 2 [(1, .int (nI kq)), (0, .ref (b))] → W p l e (rmC 3 34 228) s m aa below meth c H locs (2 + 2 * kq) (26 + 17 * kq) Q (F0 m 35 ls []) := by
    intro z
    induction z with
    | zero => intro kq M H locs ls hz hk lo hb0 hga hra hG hP; exact absurd hz (Nat.not_lt_zero _)
    | succ z ih =>
    intro kq M H locs ls hz hk lo hb0 hga hra hG hP hX hS hl
    refine lv_iload_n hx hb dX6_init_35 rfl (lv_at hl 0 rfl) ?_
    refine lv_aload_n hx hb dX6_init_36 rfl (lv_at hl 1 rfl) ?_
    refine m_get (ci := 6) (C := RX6) (T := TX6) (N := 6) hx hb ht ui_X6 hown hK hX.2 (⟨by omega, by omega⟩ : dm X (b + 3 + 2 * kq) (b)) hb0 rfl 4 (by decide) (ht _ uw_196) rfl dX6_init_37 ?_
    refine m_alen hx hb hK hX.2 (⟨by omega, by omega⟩ : dm X (b + 3 + 2 * kq) (b + 1)) 3 hga rfl (v := nI 6) rfl dX6_init_40 ?_
    refine lv_icmp_ge (tgt := 64) hx hb dX6_init_41 (by decide) (fun c_9 => ?_) (fun c_9 => ?_)
    · obtain rfl : kq = 6 := Nat.le_antisymm hk (nI_le_of (by omega) (by omega) c_9)
      refine lv_iconst (v := nI 0) hx hb dX6_init_64 (by first | rfl | decide) ?_
      refine lv_istore_n (lv' := [(1, .int (nI 0)), (0, .ref (b))]) hx hb dX6_init_65 rfl hl (by decide) rfl (fun ls hl => ?_)
      have loop_66 : ∀ (z : Nat) (kq : Nat) (M : MM) (H : Heap) (locs : List Loc) (ls : Array Slot), 20 - kq < z → kq ≤ 20 → (∀ q, q < b → M (q) = M0 q) → (M (b) = .inr (6, [.int (nI 10), .int (nI 1), .int 0, .int 0, .ref (b + 1), .ref (b + 2)])) → (M (b + 1) = .inl (g.2 3, 6, .inr (.inr (.inr (.inr (fun i => if i < 6 then some (b + 3 + 2 * i) else none)))))) → (M (b + 2) = .inl (g.2 4, 20, .inr (.inr (.inr (.inr (fun i => if i < kq then some (b + 15 + i) else none)))))) → (∀ i, i < 6 → M (b + 3 + 2 * i) = gE b i (iniG i)) → (∀ i, i < 6 → M (b + 4 + 2 * i) = pE (iniG i)) → (∀ i, i < kq → M (b + 15 + i) = rE (fun _ => 0)) → HX g X (b + 15 + kq) M H → va_S (upX X) s.heap H locs → lv_has ls 2 [(1, .int (nI kq)), (0, .ref (b))] → W p l e (rmC 3 34 228) s m aa below meth c H locs (14 + kq) (128 + 5 * kq) Q (F0 m 66 ls []) := by
        intro z
        induction z with
        | zero => intro kq M H locs ls hz hk lo hb0 hga hra hG hP hR; exact absurd hz (Nat.not_lt_zero _)
        | succ z ih =>
        intro kq M H locs ls hz hk lo hb0 hga hra hG hP hR hX hS hl
        refine lv_iload_n hx hb dX6_init_66 rfl (lv_at hl 0 rfl) ?_
        refine lv_aload_n hx hb dX6_init_67 rfl (lv_at hl 1 rfl) ?_
        refine m_get (ci := 6) (C := RX6) (T := TX6) (N := 6) hx hb ht ui_X6 hown hK hX.2 (⟨by omega, by omega⟩ : dm X (b + 15 + kq) (b)) hb0 rfl 5 (by decide) (ht _ uw_198) rfl dX6_init_68 ?_
        refine m_alen hx hb hK hX.2 (⟨by omega, by omega⟩ : dm X (b + 15 + kq) (b + 2)) 4 hra rfl (v := nI 20) rfl dX6_init_71 ?_
        refine lv_icmp_ge (tgt := 94) hx hb dX6_init_72 (by decide) (fun c_9 => ?_) (fun c_9 => ?_)
        · obtain rfl : kq = 20 := Nat.le_antisymm hk (nI_le_of (by omega) (by omega) c_9)
          have hX := (hX.fin (a := b + 1) ⟨by omega, by omega⟩ hga (f' := fun i => some (b + 3 + 2 * i)) (fun i hi => if_pos hi))
          obtain ⟨Mf, eM⟩ : ∃ M1 : MM, M1 = va_up M (b + 1) (gaE g b) := ⟨_, rfl⟩
          have hX : HX g X (b + 15 + 20) Mf H := by rw [eM]; exact hX
          have lo : ∀ q, q < b → Mf (q) = M0 q := fun q hq => by rw [eM]; exact (va_up_ne _ _ (by omega)).trans (lo q hq)
          have hb0 : Mf (b) = .inr (6, [.int (nI 10), .int (nI 1), .int 0, .int 0, .ref (b + 1), .ref (b + 2)]) := by rw [eM]; exact (va_up_ne _ _ (by omega)).trans (hb0 )
          have hra : Mf (b + 2) = .inl (g.2 4, 20, .inr (.inr (.inr (.inr (fun i => if i < 20 then some (b + 15 + i) else none))))) := by rw [eM]; exact (va_up_ne _ _ (by omega)).trans (hra )
          have hG : ∀ i, i < 6 → Mf (b + 3 + 2 * i) = gE b i (iniG i) := fun i hi => by rw [eM]; exact (va_up_ne _ _ (by omega)).trans (hG i hi)
          have hP : ∀ i, i < 6 → Mf (b + 4 + 2 * i) = pE (iniG i) := fun i hi => by rw [eM]; exact (va_up_ne _ _ (by omega)).trans (hP i hi)
          have hR : ∀ i, i < 20 → Mf (b + 15 + i) = rE (fun _ => 0) := fun i hi => by rw [eM]; exact (va_up_ne _ _ (by omega)).trans (hR i hi)
          have hga : Mf (b + 1) = gaE g b := by rw [eM]; exact va_up_self _ _ _
          have hX := (hX.fin (a := b + 2) ⟨by omega, by omega⟩ hra (f' := fun i => some (b + 15 + i)) (fun i hi => if_pos hi))
          obtain ⟨Mh, eM⟩ : ∃ M1 : MM, M1 = va_up Mf (b + 2) (raE g b id) := ⟨_, rfl⟩
          have hX : HX g X (b + 35) Mh H := by rw [eM]; exact hX
          have lo : ∀ q, q < b → Mh (q) = M0 q := fun q hq => by rw [eM]; exact (va_up_ne _ _ (by omega)).trans (lo q hq)
          have hb0 : Mh (b) = .inr (6, [.int (nI 10), .int (nI 1), .int 0, .int 0, .ref (b + 1), .ref (b + 2)]) := by rw [eM]; exact (va_up_ne _ _ (by omega)).trans (hb0 )
          have hga : Mh (b + 1) = gaE g b := by rw [eM, va_up_ne _ _ (by omega)]; exact hga
          have hG : ∀ i, i < 6 → Mh (b + 3 + 2 * i) = gE b i (iniG i) := fun i hi => by rw [eM]; exact (va_up_ne _ _ (by omega)).trans (hG i hi)
          have hP : ∀ i, i < 6 → Mh (b + 4 + 2 * i) = pE (iniG i) := fun i hi => by rw [eM]; exact (va_up_ne _ _ (by omega)).trans (hP i hi)
          have hR : ∀ i, i < 20 → Mh (b + 15 + i) = rE (fun _ => 0) := fun i hi => by rw [eM]; exact (va_up_ne _ _ (by omega)).trans (hR i hi)
          have hra : Mh (b + 2) = raE g b id := by rw [eM]; exact va_up_self _ _ _
          refine W.widen (k := 34) (n := 228) (by omega) (by omega) ?_
          subst hQ
          exact x_vret hx hb hr hlk hK hX hS dX6_init_94 (⟨lo, fun _ _ _ => trivial, ⟨fun j hj => hj, fun i j _ _ h => h⟩, hb0, hga, hra, hG, hP, hR⟩)
        · have hk6 : kq < 20 := nI_lt_of (by omega) (by omega) c_9
          refine lv_aload_n hx hb dX6_init_75 rfl (lv_at hl 1 rfl) ?_
          refine m_get (ci := 6) (C := RX6) (T := TX6) (N := 6) hx hb ht ui_X6 hown hK hX.2 (⟨by omega, by omega⟩ : dm X (b + 15 + kq) (b)) hb0 rfl 5 (by decide) (ht _ uw_198) rfl dX6_init_76 ?_
          refine lv_iload_n hx hb dX6_init_79 rfl (lv_at hl 0 rfl) ?_
          refine x_new (ci := 5) (fs := [.int 0, .int 0, .int 0, .int 0, .int 0]) (C := RX5) (T := TX5) (n := 5) hx hb ht ui_X5 tyX5 tyX5_ok hown (ht _ uw_60) (ht _ uw_158) (ht _ uw_38) hK hX hS rfl (fun j hj => by rcases (by omega : j = 0 ∨ j = 1 ∨ j = 2 ∨ j = 3 ∨ j = 4) with rfl | rfl | rfl | rfl | rfl <;> rfl) (show _ ≤ 34 by omega) (show _ ≤ 228 by omega) dX6_init_80 (fun H hX hS => ?_)
          obtain ⟨M7x, eM⟩ : ∃ M1 : MM, M1 = va_up M (b + 15 + kq) (.inr (5, [.int 0, .int 0, .int 0, .int 0, .int 0])) := ⟨_, rfl⟩
          have hX : HX g X (b + 15 + kq + 1) M7x H := by rw [eM]; exact hX
          have lo : ∀ q, q < b → M7x (q) = M0 q := fun q hq => by rw [eM]; exact (va_up_ne _ _ (by omega)).trans (lo q hq)
          have hb0 : M7x (b) = .inr (6, [.int (nI 10), .int (nI 1), .int 0, .int 0, .ref (b + 1), .ref (b + 2)]) := by rw [eM]; exact (va_up_ne _ _ (by omega)).trans (hb0 )
          have hga : M7x (b + 1) = .inl (g.2 3, 6, .inr (.inr (.inr (.inr (fun i => if i < 6 then some (b + 3 + 2 * i) else none))))) := by rw [eM]; exact (va_up_ne _ _ (by omega)).trans (hga )
          have hra : M7x (b + 2) = .inl (g.2 4, 20, .inr (.inr (.inr (.inr (fun i => if i < kq then some (b + 15 + i) else none))))) := by rw [eM]; exact (va_up_ne _ _ (by omega)).trans (hra )
          have hG : ∀ i, i < 6 → M7x (b + 3 + 2 * i) = gE b i (iniG i) := fun i hi => by rw [eM]; exact (va_up_ne _ _ (by omega)).trans (hG i hi)
          have hP : ∀ i, i < 6 → M7x (b + 4 + 2 * i) = pE (iniG i) := fun i hi => by rw [eM]; exact (va_up_ne _ _ (by omega)).trans (hP i hi)
          have hR : ∀ i, i < kq → M7x (b + 15 + i) = rE (fun _ => 0) := fun i hi => by rw [eM]; exact (va_up_ne _ _ (by omega)).trans (hR i hi)
          have hn9 : M7x (b + 15 + kq) = .inr (5, [.int 0, .int 0, .int 0, .int 0, .int 0]) := by rw [eM]; exact va_up_self _ _ _
          refine lv_dup hx hb dX6_init_83 rfl ?_
          refine x_callN (As := []) (rest := [.ref (b + 15 + kq), .int (nI kq), .ref (b + 2)]) ⟨hx, hb, hml, hown, ht⟩ (k_X5_init l g X (b + 15 + kq) M7x (by omega)) ⟨va_cnB 0 ht (gUI uw_161) rfl rfl rfl hNW.2.1 (ht _ uw_38) (by decide +kernel) ⟨by decide, by decide⟩, rfl, (ht _ uw_160)⟩ hK hNW hX hS rfl hl.1 rfl (Nat.le_of_ble_eq_true rfl) dX6_init_84 ⟨show _ ≤ 34 by omega, show _ ≤ 228 by omega⟩ (fun M8x H locs hp hX hS => ?_)
          have lo1 : ∀ q, q < b + 15 + kq → M8x q = M7x q := fun q _ => by rw [hp]
          have lo : ∀ q, q < b → M8x (q) = M0 q := fun q hq => (lo1 _ (by omega)).trans (lo q hq)
          have hb0 : M8x (b) = .inr (6, [.int (nI 10), .int (nI 1), .int 0, .int 0, .ref (b + 1), .ref (b + 2)]) := (lo1 _ (by omega)).trans (hb0 )
          have hga : M8x (b + 1) = .inl (g.2 3, 6, .inr (.inr (.inr (.inr (fun i => if i < 6 then some (b + 3 + 2 * i) else none))))) := (lo1 _ (by omega)).trans (hga )
          have hra : M8x (b + 2) = .inl (g.2 4, 20, .inr (.inr (.inr (.inr (fun i => if i < kq then some (b + 15 + i) else none))))) := (lo1 _ (by omega)).trans (hra )
          have hG : ∀ i, i < 6 → M8x (b + 3 + 2 * i) = gE b i (iniG i) := fun i hi => (lo1 _ (by omega)).trans (hG i hi)
          have hP : ∀ i, i < 6 → M8x (b + 4 + 2 * i) = pE (iniG i) := fun i hi => (lo1 _ (by omega)).trans (hP i hi)
          have hR : ∀ i, i < kq → M8x (b + 15 + i) = rE (fun _ => 0) := fun i hi => (lo1 _ (by omega)).trans (hR i hi)
          have hn9 : M8x (b + 15 + kq) = .inr (5, [.int 0, .int 0, .int 0, .int 0, .int 0]) := by rw [hp]; exact hn9
          have hX : HX g X (b + 15 + kq + 1) M8x H := hX
          refine x_aast (r := (RX5, TX5, 5)) hx hb hK hX hS ⟨by omega, by omega⟩ 4 5 hra rfl ⟨by omega, by omega⟩ hn9 rfl hk6 (by omega) dX6_init_87 (fun H locs hX hS => ?_)
          obtain ⟨M9x, eM⟩ : ∃ M1 : MM, M1 = va_up M8x (b + 2) (.inl (g.2 4, 20, .inr (.inr (.inr (.inr (va_up (fun i => if i < kq then some (b + 15 + i) else none) kq (some (b + 15 + kq)))))))) := ⟨_, rfl⟩
          have hX : HX g X (b + 15 + kq + 1) M9x H := by rw [eM]; exact hX
          have lo : ∀ q, q < b → M9x (q) = M0 q := fun q hq => by rw [eM]; exact (va_up_ne _ _ (by omega)).trans (lo q hq)
          have hb0 : M9x (b) = .inr (6, [.int (nI 10), .int (nI 1), .int 0, .int 0, .ref (b + 1), .ref (b + 2)]) := by rw [eM]; exact (va_up_ne _ _ (by omega)).trans (hb0 )
          have hga : M9x (b + 1) = .inl (g.2 3, 6, .inr (.inr (.inr (.inr (fun i => if i < 6 then some (b + 3 + 2 * i) else none))))) := by rw [eM]; exact (va_up_ne _ _ (by omega)).trans (hga )
          have hra : M9x (b + 2) = .inl (g.2 4, 20, .inr (.inr (.inr (.inr (va_up (fun i => if i < kq then some (b + 15 + i) else none) kq (some (b + 15 + kq))))))) := by rw [eM]; exact va_up_self _ _ _
          have hG : ∀ i, i < 6 → M9x (b + 3 + 2 * i) = gE b i (iniG i) := fun i hi => by rw [eM]; exact (va_up_ne _ _ (by omega)).trans (hG i hi)
          have hP : ∀ i, i < 6 → M9x (b + 4 + 2 * i) = pE (iniG i) := fun i hi => by rw [eM]; exact (va_up_ne _ _ (by omega)).trans (hP i hi)
          have hR : ∀ i, i < kq → M9x (b + 15 + i) = rE (fun _ => 0) := fun i hi => by rw [eM]; exact (va_up_ne _ _ (by omega)).trans (hR i hi)
          have hn9 : M9x (b + 15 + kq) = .inr (5, [.int 0, .int 0, .int 0, .int 0, .int 0]) := by rw [eM]; exact (va_up_ne _ _ (by omega)).trans (hn9 )
          refine lv_iinc (v := nI (kq + 1)) (lv' := [(1, .int (nI (kq + 1))), (0, .ref (b))]) hx hb dX6_init_88 hl (k := 0) rfl (nI_1 _) (by decide) rfl (fun ls hl => ?_)
          refine lv_goto (tgt := 66) hx hb dX6_init_91 (by decide) ?_
          refine W.widen (k := 14 + (kq + 1)) (n := 128 + 5 * (kq + 1)) (by omega) (by omega) ?_
          exact ih (kq + 1) _ _ _ _ (by omega) (by omega) lo hb0 hga (arrE_up (F := fun i => b + 15 + i) hra) hG hP (fun i hi => by
                  by_cases hik : i = kq
                  · rw [hik]; exact hn9
                  · exact hR i (by omega)) (by rw [show b + 15 + (kq + 1) = b + 15 + kq + 1 by omega]; exact hX) hS hl
      exact loop_66 21 0 _ _ _ _ (by omega) (by omega) lo hb0 hga (arrE_0 (fun i => b + 15 + i) hra) hG hP (fun i hi => absurd hi (Nat.not_lt_zero i)) (by exact hX) hS hl
    · have hk6 : kq < 6 := nI_lt_of (by omega) (by omega) c_9
      refine lv_aload_n hx hb dX6_init_44 rfl (lv_at hl 1 rfl) ?_
      refine m_get (ci := 6) (C := RX6) (T := TX6) (N := 6) hx hb ht ui_X6 hown hK hX.2 (⟨by omega, by omega⟩ : dm X (b + 3 + 2 * kq) (b)) hb0 rfl 4 (by decide) (ht _ uw_196) rfl dX6_init_45 ?_
      refine lv_iload_n hx hb dX6_init_48 rfl (lv_at hl 0 rfl) ?_
      refine x_new (ci := 0) (fs := [.int 0, .int 0, .int 0, .int 0, .int 0, .int 0, .int 0, .int 0, .null]) (C := RX0) (T := TX0) (n := 9) hx hb ht ui_X0 tyX0 tyX0_ok hown (ht _ uw_58) (ht _ uw_62) (ht _ uw_36) hK hX hS rfl (fun j hj => by rcases (by omega : j = 0 ∨ j = 1 ∨ j = 2 ∨ j = 3 ∨ j = 4 ∨ j = 5 ∨ j = 6 ∨ j = 7 ∨ j = 8) with rfl | rfl | rfl | rfl | rfl | rfl | rfl | rfl | rfl <;> rfl) (show _ ≤ 34 by omega) (show _ ≤ 228 by omega) dX6_init_49 (fun H hX hS => ?_)
      obtain ⟨M10x, eM⟩ : ∃ M1 : MM, M1 = va_up M (b + 3 + 2 * kq) (.inr (0, [.int 0, .int 0, .int 0, .int 0, .int 0, .int 0, .int 0, .int 0, .null])) := ⟨_, rfl⟩
      have hX : HX g X (b + 3 + 2 * kq + 1) M10x H := by rw [eM]; exact hX
      have lo : ∀ q, q < b → M10x (q) = M0 q := fun q hq => by rw [eM]; exact (va_up_ne _ _ (by omega)).trans (lo q hq)
      have hb0 : M10x (b) = .inr (6, [.int (nI 10), .int (nI 1), .int 0, .int 0, .ref (b + 1), .ref (b + 2)]) := by rw [eM]; exact (va_up_ne _ _ (by omega)).trans (hb0 )
      have hga : M10x (b + 1) = .inl (g.2 3, 6, .inr (.inr (.inr (.inr (fun i => if i < kq then some (b + 3 + 2 * i) else none))))) := by rw [eM]; exact (va_up_ne _ _ (by omega)).trans (hga )
      have hra : M10x (b + 2) = .inl (g.2 4, 20, .inr (.inr (.inr (.inr (fun _ => none))))) := by rw [eM]; exact (va_up_ne _ _ (by omega)).trans (hra )
      have hG : ∀ i, i < kq → M10x (b + 3 + 2 * i) = gE b i (iniG i) := fun i hi => by rw [eM]; exact (va_up_ne _ _ (by omega)).trans (hG i hi)
      have hP : ∀ i, i < kq → M10x (b + 4 + 2 * i) = pE (iniG i) := fun i hi => by rw [eM]; exact (va_up_ne _ _ (by omega)).trans (hP i hi)
      have hn9 : M10x (b + 3 + 2 * kq) = .inr (0, [.int 0, .int 0, .int 0, .int 0, .int 0, .int 0, .int 0, .int 0, .null]) := by rw [eM]; exact va_up_self _ _ _
      refine lv_dup hx hb dX6_init_52 rfl ?_
      refine lv_iload_n hx hb dX6_init_53 rfl (lv_at hl 0 rfl) ?_
      refine x_callI (As := [.int (nI kq)]) (rest := [.ref (b + 3 + 2 * kq), .int (nI kq), .ref (b + 1)]) ⟨hx, hb, hml, hown, ht⟩ (k_X0_init l g X (b + 3 + 2 * kq) M10x (nI kq) hn9 (by omega)) (cwI 1 ht (gUI uw_65) rfl rfl rfl (ht _ uw_36) (ht _ uw_63) (ht _ uw_64) rfl (by decide +kernel) ⟨by decide, by decide⟩) hK hNW hX hS rfl hl.1 rfl (Nat.le_of_ble_eq_true rfl) dX6_init_54 ⟨show _ ≤ 34 by omega, show _ ≤ 228 by omega⟩ (fun M11x H locs hp hX hS => ?_)
      obtain ⟨lo1, hg9, hp9⟩ := hp
      have lo : ∀ q, q < b → M11x (q) = M0 q := fun q hq => (lo1 _ (by omega)).trans (lo q hq)
      have hb0 : M11x (b) = .inr (6, [.int (nI 10), .int (nI 1), .int 0, .int 0, .ref (b + 1), .ref (b + 2)]) := (lo1 _ (by omega)).trans (hb0 )
      have hga : M11x (b + 1) = .inl (g.2 3, 6, .inr (.inr (.inr (.inr (fun i => if i < kq then some (b + 3 + 2 * i) else none))))) := (lo1 _ (by omega)).trans (hga )
      have hra : M11x (b + 2) = .inl (g.2 4, 20, .inr (.inr (.inr (.inr (fun _ => none))))) := (lo1 _ (by omega)).trans (hra )
      have hG : ∀ i, i < kq → M11x (b + 3 + 2 * i) = gE b i (iniG i) := fun i hi => (lo1 _ (by omega)).trans (hG i hi)
      have hP : ∀ i, i < kq → M11x (b + 4 + 2 * i) = pE (iniG i) := fun i hi => (lo1 _ (by omega)).trans (hP i hi)
      have hg9 : M11x (b + 3 + 2 * kq) = .inr (0, [.int (nI 3), .int (nI 10), .int (nI 100), .int (nI kq), .int 0, .int 0, .int 0, .int 0, .ref (b + 3 + 2 * kq + 1)]) := hg9
      have hp9 : M11x (b + 3 + 2 * kq + 1) = .inr (4, [.int 0, .int 0, .int 0, .int 0, .int 0, .int 0, .int 0, .int 0]) := hp9
      have hX : HX g X (b + 3 + 2 * kq + 2) M11x H := hX
      refine x_aast (r := (RX0, TX0, 9)) hx hb hK hX hS ⟨by omega, by omega⟩ 3 0 hga rfl ⟨by omega, by omega⟩ hg9 rfl hk6 (by omega) dX6_init_57 (fun H locs hX hS => ?_)
      obtain ⟨M12x, eM⟩ : ∃ M1 : MM, M1 = va_up M11x (b + 1) (.inl (g.2 3, 6, .inr (.inr (.inr (.inr (va_up (fun i => if i < kq then some (b + 3 + 2 * i) else none) kq (some (b + 3 + 2 * kq)))))))) := ⟨_, rfl⟩
      have hX : HX g X (b + 3 + 2 * kq + 2) M12x H := by rw [eM]; exact hX
      have lo : ∀ q, q < b → M12x (q) = M0 q := fun q hq => by rw [eM]; exact (va_up_ne _ _ (by omega)).trans (lo q hq)
      have hb0 : M12x (b) = .inr (6, [.int (nI 10), .int (nI 1), .int 0, .int 0, .ref (b + 1), .ref (b + 2)]) := by rw [eM]; exact (va_up_ne _ _ (by omega)).trans (hb0 )
      have hga : M12x (b + 1) = .inl (g.2 3, 6, .inr (.inr (.inr (.inr (va_up (fun i => if i < kq then some (b + 3 + 2 * i) else none) kq (some (b + 3 + 2 * kq))))))) := by rw [eM]; exact va_up_self _ _ _
      have hra : M12x (b + 2) = .inl (g.2 4, 20, .inr (.inr (.inr (.inr (fun _ => none))))) := by rw [eM]; exact (va_up_ne _ _ (by omega)).trans (hra )
      have hG : ∀ i, i < kq → M12x (b + 3 + 2 * i) = gE b i (iniG i) := fun i hi => by rw [eM]; exact (va_up_ne _ _ (by omega)).trans (hG i hi)
      have hP : ∀ i, i < kq → M12x (b + 4 + 2 * i) = pE (iniG i) := fun i hi => by rw [eM]; exact (va_up_ne _ _ (by omega)).trans (hP i hi)
      have hg9 : M12x (b + 3 + 2 * kq) = .inr (0, [.int (nI 3), .int (nI 10), .int (nI 100), .int (nI kq), .int 0, .int 0, .int 0, .int 0, .ref (b + 3 + 2 * kq + 1)]) := by rw [eM]; exact (va_up_ne _ _ (by omega)).trans (hg9 )
      have hp9 : M12x (b + 3 + 2 * kq + 1) = .inr (4, [.int 0, .int 0, .int 0, .int 0, .int 0, .int 0, .int 0, .int 0]) := by rw [eM]; exact (va_up_ne _ _ (by omega)).trans (hp9 )
      refine lv_iinc (v := nI (kq + 1)) (lv' := [(1, .int (nI (kq + 1))), (0, .ref (b))]) hx hb dX6_init_58 hl (k := 0) rfl (nI_1 _) (by decide) rfl (fun ls hl => ?_)
      refine lv_goto (tgt := 35) hx hb dX6_init_61 (by decide) ?_
      refine W.widen (k := 2 + 2 * (kq + 1)) (n := 26 + 17 * (kq + 1)) (by omega) (by omega) ?_
      exact ih (kq + 1) _ _ _ _ (by omega) (by omega) lo hb0 (arrE_up (F := fun i => b + 3 + 2 * i) hga) hra (fun i hi => by
              by_cases hik : i = kq
              · rw [hik]; exact hg9.trans (by rw [show b + 3 + 2 * kq + 1 = b + 4 + 2 * kq by omega]; rfl)
              · exact hG i (by omega)) (fun i hi => by
              by_cases hik : i = kq
              · rw [hik, show b + 4 + 2 * kq = b + 3 + 2 * kq + 1 by omega]; exact hp9
              · exact hP i (by omega)) (by rw [show b + 3 + 2 * (kq + 1) = b + 3 + 2 * kq + 2 by omega]; exact hX) hS hl
  exact loop_35 7 0 _ _ _ _ (by omega) (by omega) lo hb0 (arrE_0 (fun i => b + 3 + 2 * i) hga) hra (fun i hi => absurd hi (Nat.not_lt_zero i)) (fun i hi => absurd hi (Nat.not_lt_zero i)) (by exact hX) hS hl

set_option maxHeartbeats 4000000 in
set_option maxRecDepth 100000 in
/-- a history -/
theorem k_X1_init (l : Launch) (g : GG) (X b : Nat) (M0 : MM) (hb0 : M0 (b) = .inr (1, [.null, .int 0])) (hXb : X ≤ b) : Met l yX1_init (Uw yX1_init cX1_init 2 (Option.none : Option ClassFile.FieldType)) (rmC 4 211 1410) (PreX [.ref b] g X (b + 1) M0) (PosX (fun M1 => (∀ q, q < b → M1 q = M0 q) ∧ RepH g (fun _ => True) M1 b id (fun _ => id) (fun _ => iniV) 0) g X (b + 212)) 211 1410 (upX X) := by
  refine mk_MetX (own := RX1) rfl rfl (by decide) (Nat.le_of_ble_eq_true rfl) ?_
  intro p e s m below meth c ls aa Q haa hQ hx hb hr hlk hml hown hts hK hNW hX hS hl hnm
  have ht : ∀ w ∈ lw_good, w.before _ s = true := fun w h => hts w (List.mem_cons_of_mem _ h)
  have hl : lv_has ls 2 [(0, .ref b)] := hl
  have lo : ∀ q, q < b → M0 q = M0 q := fun _ _ => rfl
  refine lv_aload_n hx hb dX1_init_0 rfl (lv_at hl 0 rfl) ?_
  refine W.objInit hx hb hown (ht _ uw_217) (ht _ uw_50) (ht _ uw_51) rfl (by rw [hml]; exact hl.1) rfl dX1_init_1 (Nat.le_of_ble_eq_true rfl) (Nat.le_of_ble_eq_true rfl) ?_
  refine lv_aload_n hx hb dX1_init_4 rfl (lv_at hl 0 rfl) ?_
  refine lv_bipush (v := nI 6) hx hb dX1_init_5 (by first | rfl | decide) ?_
  refine x_newq (C := RX6) hx hb hown (ht _ uw_218) hNW.2.2.2.2.2 hK hX hS 5 rfl (nI_pos (by omega)) (nI_clamp (by omega)) (Nat.le_of_ble_eq_true rfl) (Nat.le_of_ble_eq_true rfl) (Nat.le_of_ble_eq_true rfl) dX1_init_7 (fun H hX hS => ?_)
  obtain ⟨M1x, eM⟩ : ∃ M1 : MM, M1 = va_up M0 (b + 1) (.inl (g.2 5, 6, .inr (.inr (.inr (.inr (fun _ => none)))))) := ⟨_, rfl⟩
  have hX : HX g X (b + 2) M1x H := by rw [eM]; exact hX
  have lo : ∀ q, q < b → M1x (q) = M0 q := fun q hq => by rw [eM]; exact (va_up_ne _ _ (by omega)).trans (lo q hq)
  have hb0 : M1x (b) = .inr (1, [.null, .int 0]) := by rw [eM]; exact (va_up_ne _ _ (by omega)).trans (hb0 )
  have hga : M1x (b + 1) = .inl (g.2 5, 6, .inr (.inr (.inr (.inr (fun _ => none))))) := by rw [eM]; exact va_up_self _ _ _
  refine x_putF (ci := 1) (C := RX1) (T := TX1) (n := 2) hx hb ht ui_X1 tyX1 tyX1_ok nmX1 hown hK hX hS ⟨by omega, by omega⟩ hb0 rfl 0 (by decide) (ht _ uw_221) rfl (hnm.trans rfl) rfl rfl rfl (Nat.le_of_ble_eq_true rfl) dX1_init_10 (fun H locs hX hS => ?_)
  obtain ⟨M2x, eM⟩ : ∃ M1 : MM, M1 = va_up M1x (b) (.inr (1, [.ref (b + 1), .int 0])) := ⟨_, rfl⟩
  have hX : HX g X (b + 2) M2x H := by rw [eM]; exact hX
  have lo : ∀ q, q < b → M2x (q) = M0 q := fun q hq => by rw [eM]; exact (va_up_ne _ _ (by omega)).trans (lo q hq)
  have hb0 : M2x (b) = .inr (1, [.ref (b + 1), .int 0]) := by rw [eM]; exact va_up_self _ _ _
  have hga : M2x (b + 1) = .inl (g.2 5, 6, .inr (.inr (.inr (.inr (fun _ => none))))) := by rw [eM]; exact (va_up_ne _ _ (by omega)).trans (hga )
  refine lv_iconst (v := nI 0) hx hb dX1_init_13 (by first | rfl | decide) ?_
  refine lv_istore_n (lv' := [(1, .int (nI 0)), (0, .ref (b))]) hx hb dX1_init_14 rfl hl (by decide) rfl (fun ls hl => ?_)
  have loop_15 : ∀ (z : Nat) (kq : Nat) (M : MM) (H : Heap) (locs : List Loc) (ls : Array Slot), 6 - kq < z → kq ≤ 6 → (∀ q, q < b → M (q) = M0 q) → (M (b) = .inr (1, [.ref (b + 1), .int 0])) → (M (b + 1) = .inl (g.2 5, 6, .inr (.inr (.inr (.inr (fun i => if i < kq then some (b + 2 + 35 * i) else none)))))) → (∀ j, j < kq → RepV g (fun _ => True) M (b + 2 + 35 * j) id iniV) → HX g X (b + 2 + 35 * kq) M H → va_S (upX X) s.heap H locs → lv_has ls 2 [(1, .int (nI kq)), (0, .ref (b))] → W p l e (rmC 4 211 1410) s m aa below meth c H locs (1 + 35 * kq) (6 + 234 * kq) Q (F0 m 15 ls []) := by
    intro z
    induction z with
    | zero => intro kq M H locs ls hz hk lo hb0 hga hV; exact absurd hz (Nat.not_lt_zero _)
    | succ z ih =>
    intro kq M H locs ls hz hk lo hb0 hga hV hX hS hl
    refine lv_iload_n hx hb dX1_init_15 rfl (lv_at hl 0 rfl) ?_
    refine lv_aload_n hx hb dX1_init_16 rfl (lv_at hl 1 rfl) ?_
    refine m_get (ci := 1) (C := RX1) (T := TX1) (N := 2) hx hb ht ui_X1 hown hK hX.2 (⟨by omega, by omega⟩ : dm X (b + 2 + 35 * kq) (b)) hb0 rfl 0 (by decide) (ht _ uw_221) rfl dX1_init_17 ?_
    refine m_alen hx hb hK hX.2 (⟨by omega, by omega⟩ : dm X (b + 2 + 35 * kq) (b + 1)) 5 hga rfl (v := nI 6) rfl dX1_init_20 ?_
    refine lv_icmp_ge (tgt := 43) hx hb dX1_init_21 (by decide) (fun c_9 => ?_) (fun c_9 => ?_)
    · obtain rfl : kq = 6 := Nat.le_antisymm hk (nI_le_of (by omega) (by omega) c_9)
      have hX := (hX.fin (a := b + 1) ⟨by omega, by omega⟩ hga (f' := fun i => some (b + 2 + 35 * id i)) (fun i hi => if_pos hi))
      obtain ⟨Mf, eM⟩ : ∃ M1 : MM, M1 = va_up M (b + 1) (haE g b id) := ⟨_, rfl⟩
      have hX : HX g X (b + 212) Mf H := by rw [eM]; exact hX
      have lo : ∀ q, q < b → Mf (q) = M0 q := fun q hq => by rw [eM]; exact (va_up_ne _ _ (by omega)).trans (lo q hq)
      have hb0 : Mf (b) = .inr (1, [.ref (b + 1), .int 0]) := by rw [eM]; exact (va_up_ne _ _ (by omega)).trans (hb0 )
      have hV : ∀ j, j < 6 → RepV g (fun _ => True) Mf (b + 2 + 35 * j) id iniV := fun j hj => (hV j hj).agr (fun q z1 z2 => by rw [eM]; exact va_up_ne _ _ (by omega))
      have hga : Mf (b + 1) = haE g b id := by rw [eM]; exact va_up_self _ _ _
      refine W.widen (k := 211) (n := 1410) (by omega) (by omega) ?_
      subst hQ
      exact x_vret hx hb hr hlk hK hX hS dX1_init_43 (⟨lo, trivial, trivial, ⟨fun j hj => hj, fun i j _ _ h => h⟩, hb0, hga, hV⟩)
    · have hk6 : kq < 6 := nI_lt_of (by omega) (by omega) c_9
      refine lv_aload_n hx hb dX1_init_24 rfl (lv_at hl 1 rfl) ?_
      refine m_get (ci := 1) (C := RX1) (T := TX1) (N := 2) hx hb ht ui_X1 hown hK hX.2 (⟨by omega, by omega⟩ : dm X (b + 2 + 35 * kq) (b)) hb0 rfl 0 (by decide) (ht _ uw_221) rfl dX1_init_25 ?_
      refine lv_iload_n hx hb dX1_init_28 rfl (lv_at hl 0 rfl) ?_
      refine x_new (ci := 6) (fs := [.int 0, .int 0, .int 0, .int 0, .null, .null]) (C := RX6) (T := TX6) (n := 6) hx hb ht ui_X6 tyX6 tyX6_ok hown (ht _ uw_218) (ht _ uw_53) (ht _ uw_35) hK hX hS rfl (fun j hj => by rcases (by omega : j = 0 ∨ j = 1 ∨ j = 2 ∨ j = 3 ∨ j = 4 ∨ j = 5) with rfl | rfl | rfl | rfl | rfl | rfl <;> rfl) (show _ ≤ 211 by omega) (show _ ≤ 1410 by omega) dX1_init_29 (fun H hX hS => ?_)
      obtain ⟨M3x, eM⟩ : ∃ M1 : MM, M1 = va_up M (b + 2 + 35 * kq) (.inr (6, [.int 0, .int 0, .int 0, .int 0, .null, .null])) := ⟨_, rfl⟩
      have hX : HX g X (b + 2 + 35 * kq + 1) M3x H := by rw [eM]; exact hX
      have lo : ∀ q, q < b → M3x (q) = M0 q := fun q hq => by rw [eM]; exact (va_up_ne _ _ (by omega)).trans (lo q hq)
      have hb0 : M3x (b) = .inr (1, [.ref (b + 1), .int 0]) := by rw [eM]; exact (va_up_ne _ _ (by omega)).trans (hb0 )
      have hga : M3x (b + 1) = .inl (g.2 5, 6, .inr (.inr (.inr (.inr (fun i => if i < kq then some (b + 2 + 35 * i) else none))))) := by rw [eM]; exact (va_up_ne _ _ (by omega)).trans (hga )
      have hV : ∀ j, j < kq → RepV g (fun _ => True) M3x (b + 2 + 35 * j) id iniV := fun j hj => (hV j hj).agr (fun q z1 z2 => by rw [eM]; exact va_up_ne _ _ (by omega))
      have hn9 : M3x (b + 2 + 35 * kq) = .inr (6, [.int 0, .int 0, .int 0, .int 0, .null, .null]) := by rw [eM]; exact va_up_self _ _ _
      refine lv_dup hx hb dX1_init_32 rfl ?_
      refine x_callI (As := []) (rest := [.ref (b + 2 + 35 * kq), .int (nI kq), .ref (b + 1)]) ⟨hx, hb, hml, hown, ht⟩ (k_X6_init l g X (b + 2 + 35 * kq) M3x hn9 (by omega)) (cwI 0 ht (gUI uw_56) rfl rfl rfl (ht _ uw_35) (ht _ uw_220) (ht _ uw_55) rfl (by decide +kernel) ⟨by decide, by decide⟩) hK hNW hX hS rfl hl.1 rfl (Nat.le_of_ble_eq_true rfl) dX1_init_33 ⟨show _ ≤ 211 by omega, show _ ≤ 1410 by omega⟩ (fun M4x H locs hp hX hS => ?_)
      obtain ⟨lo1, hv9⟩ := hp
      have lo : ∀ q, q < b → M4x (q) = M0 q := fun q hq => (lo1 _ (by omega)).trans (lo q hq)
      have hb0 : M4x (b) = .inr (1, [.ref (b + 1), .int 0]) := (lo1 _ (by omega)).trans (hb0 )
      have hga : M4x (b + 1) = .inl (g.2 5, 6, .inr (.inr (.inr (.inr (fun i => if i < kq then some (b + 2 + 35 * i) else none))))) := (lo1 _ (by omega)).trans (hga )
      have hV : ∀ j, j < kq → RepV g (fun _ => True) M4x (b + 2 + 35 * j) id iniV := fun j hj => (hV j hj).agr (fun q z1 z2 => lo1 q (by omega))
      have hv8 : RepV g (fun _ => True) M4x (b + 2 + 35 * kq) id iniV := hv9
      have hX : HX g X (b + 2 + 35 * kq + 35) M4x H := hX
      obtain ⟨hvW, hvL⟩ := rv_obj hv8
      refine x_aast (r := (RX6, TX6, 6)) hx hb hK hX hS ⟨by omega, by omega⟩ 5 6 hga rfl ⟨by omega, by omega⟩ hvW rfl hk6 (by omega) dX1_init_36 (fun H locs hX hS => ?_)
      obtain ⟨M5x, eM⟩ : ∃ M1 : MM, M1 = va_up M4x (b + 1) (.inl (g.2 5, 6, .inr (.inr (.inr (.inr (va_up (fun i => if i < kq then some (b + 2 + 35 * i) else none) kq (some (b + 2 + 35 * kq)))))))) := ⟨_, rfl⟩
      have hX : HX g X (b + 2 + 35 * kq + 35) M5x H := by rw [eM]; exact hX
      have lo : ∀ q, q < b → M5x (q) = M0 q := fun q hq => by rw [eM]; exact (va_up_ne _ _ (by omega)).trans (lo q hq)
      have hb0 : M5x (b) = .inr (1, [.ref (b + 1), .int 0]) := by rw [eM]; exact (va_up_ne _ _ (by omega)).trans (hb0 )
      have hga : M5x (b + 1) = .inl (g.2 5, 6, .inr (.inr (.inr (.inr (va_up (fun i => if i < kq then some (b + 2 + 35 * i) else none) kq (some (b + 2 + 35 * kq))))))) := by rw [eM]; exact va_up_self _ _ _
      have hV : ∀ j, j < kq → RepV g (fun _ => True) M5x (b + 2 + 35 * j) id iniV := fun j hj => (hV j hj).agr (fun q z1 z2 => by rw [eM]; exact va_up_ne _ _ (by omega))
      have hv8 : RepV g (fun _ => True) M5x (b + 2 + 35 * kq) id iniV := (hv8 ).agr (fun q z1 z2 => by rw [eM]; exact va_up_ne _ _ (by omega))
      refine lv_iinc (v := nI (kq + 1)) (lv' := [(1, .int (nI (kq + 1))), (0, .ref (b))]) hx hb dX1_init_37 hl (k := 0) rfl (nI_1 _) (by decide) rfl (fun ls hl => ?_)
      refine lv_goto (tgt := 15) hx hb dX1_init_40 (by decide) ?_
      refine W.widen (k := 1 + 35 * (kq + 1)) (n := 6 + 234 * (kq + 1)) (by omega) (by omega) ?_
      exact ih (kq + 1) _ _ _ _ (by omega) (by omega) lo hb0 (arrE_up (F := fun i => b + 2 + 35 * i) hga) (fun j hj => by
              by_cases hik : j = kq
              · rw [hik]; exact hv8
              · exact hV j (by omega)) (by rw [show b + 2 + 35 * (kq + 1) = b + 2 + 35 * kq + 35 by omega]; exact hX) hS hl
  exact loop_15 7 0 _ _ _ _ (by omega) (by omega) lo hb0 (arrE_0 (fun i => b + 2 + 35 * i) hga) (fun j hj => absurd hj (Nat.not_lt_zero j)) (by exact hX) hS hl

set_option maxHeartbeats 4000000 in
set_option maxRecDepth 100000 in
/-- a pad -/
theorem k_X3_init (l : Launch) (g : GG) (X b : Nat) (M0 : MM) (hb0 : M0 (b) = .inr (3, [.null, .int 0])) (hXb : X ≤ b) : Met l yX3_init (Uw yX3_init cX3_init 1 (Option.none : Option ClassFile.FieldType)) (rmC 1 1 60) (PreX [.ref b] g X (b + 1) M0) (PosX (fun M1 => (∀ q, q < b → M1 q = M0 q) ∧ M1 b = .inr (3, [.ref (b + 1), .int 0]) ∧ M1 (b + 1) = .inl (g.2 0, 60, .inl (fun _ => 0))) g X (b + 2)) 1 60 (upX X) := by
  refine mk_MetX (own := RX3) rfl rfl (by decide) (Nat.le_of_ble_eq_true rfl) ?_
  intro p e s m below meth c ls aa Q haa hQ hx hb hr hlk hml hown hts hK hNW hX hS hl hnm
  have ht : ∀ w ∈ lw_good, w.before _ s = true := fun w h => hts w (List.mem_cons_of_mem _ h)
  have hl : lv_has ls 1 [(0, .ref b)] := hl
  have lo : ∀ q, q < b → M0 q = M0 q := fun _ _ => rfl
  refine lv_aload_n hx hb dX3_init_0 rfl (lv_at hl 0 rfl) ?_
  refine W.objInit hx hb hown (ht _ uw_234) (ht _ uw_50) (ht _ uw_51) rfl (by rw [hml]; exact hl.1) rfl dX3_init_1 (Nat.le_of_ble_eq_true rfl) (Nat.le_of_ble_eq_true rfl) ?_
  refine lv_aload_n hx hb dX3_init_4 rfl (lv_at hl 0 rfl) ?_
  refine lv_bipush (v := nI 60) hx hb dX3_init_5 (by first | rfl | decide) ?_
  refine x_newa (atype := .char) hx hb (ht _ uw_245) hK hX hS 0 rfl (fun z => z) rfl (nI_pos (by omega)) (nI_clamp (by omega)) (Nat.le_of_ble_eq_true rfl) (Nat.le_of_ble_eq_true rfl) (Nat.le_of_ble_eq_true rfl) dX3_init_7 (fun H hX hS => ?_)
  obtain ⟨M1x, eM⟩ : ∃ M1 : MM, M1 = va_up M0 (b + 1) (.inl (g.2 0, 60, .inl (fun _ => 0))) := ⟨_, rfl⟩
  have hX : HX g X (b + 2) M1x H := by rw [eM]; exact hX
  have lo : ∀ q, q < b → M1x (q) = M0 q := fun q hq => by rw [eM]; exact (va_up_ne _ _ (by omega)).trans (lo q hq)
  have hb0 : M1x (b) = .inr (3, [.null, .int 0]) := by rw [eM]; exact (va_up_ne _ _ (by omega)).trans (hb0 )
  have hsg : M1x (b + 1) = .inl (g.2 0, 60, .inl (fun _ => 0)) := by rw [eM]; exact va_up_self _ _ _
  refine x_putF (ci := 3) (C := RX3) (T := TX3) (n := 2) hx hb ht ui_X3 tyX3 tyX3_ok nmX3 hown hK hX hS ⟨by omega, by omega⟩ hb0 rfl 0 (by decide) (ht _ uw_235) rfl (hnm.trans rfl) rfl rfl rfl (Nat.le_of_ble_eq_true rfl) dX3_init_9 (fun H locs hX hS => ?_)
  obtain ⟨M2x, eM⟩ : ∃ M1 : MM, M1 = va_up M1x (b) (.inr (3, [.ref (b + 1), .int 0])) := ⟨_, rfl⟩
  have hX : HX g X (b + 2) M2x H := by rw [eM]; exact hX
  have lo : ∀ q, q < b → M2x (q) = M0 q := fun q hq => by rw [eM]; exact (va_up_ne _ _ (by omega)).trans (lo q hq)
  have hb0 : M2x (b) = .inr (3, [.ref (b + 1), .int 0]) := by rw [eM]; exact va_up_self _ _ _
  have hsg : M2x (b + 1) = .inl (g.2 0, 60, .inl (fun _ => 0)) := by rw [eM]; exact (va_up_ne _ _ (by omega)).trans (hsg )
  refine W.widen (k := 1) (n := 60) (by omega) (by omega) ?_
  subst hQ
  exact x_vret hx hb hr hlk hK hX hS dX3_init_12 (⟨lo, hb0, hsg⟩)

set_option maxHeartbeats 4000000 in
set_option maxRecDepth 100000 in
/-- a reader -/
theorem k_X2_init (l : Launch) (g : GG) (X b : Nat) (M0 : MM) (a : Nat) (hb0 : M0 (b) = .inr (2, [.null, .int 0, .int 0, .int 0, .int 0, .int 0])) (hXb : X ≤ b) : Met l yX2_init (Uw yX2_init cX2_init 2 (Option.none : Option ClassFile.FieldType)) (rmC 1 0 0) (PreX [.ref b, .ref a] g X (b + 1) M0) (PosX (fun M1 => (∀ q, q < b → M1 q = M0 q) ∧ M1 b = .inr (2, [.ref (a), .int 0, .int 0, .int 0, .int 0, .int 0])) g X (b + 1)) 0 0 (upX X) := by
  refine mk_MetX (own := RX2) rfl rfl (by decide) (Nat.le_of_ble_eq_true rfl) ?_
  intro p e s m below meth c ls aa Q haa hQ hx hb hr hlk hml hown hts hK hNW hX hS hl hnm
  have ht : ∀ w ∈ lw_good, w.before _ s = true := fun w h => hts w (List.mem_cons_of_mem _ h)
  have hl : lv_has ls 2 [(0, .ref b), (1, .ref a)] := hl
  have lo : ∀ q, q < b → M0 q = M0 q := fun _ _ => rfl
  refine lv_aload_n hx hb dX2_init_0 rfl (lv_at hl 0 rfl) ?_
  refine W.objInit hx hb hown (ht _ uw_251) (ht _ uw_50) (ht _ uw_51) rfl (by rw [hml]; exact hl.1) rfl dX2_init_1 (Nat.le_of_ble_eq_true rfl) (Nat.le_of_ble_eq_true rfl) ?_
  refine lv_aload_n hx hb dX2_init_4 rfl (lv_at hl 0 rfl) ?_
  refine lv_aload_n hx hb dX2_init_5 rfl (lv_at hl 1 rfl) ?_
  refine x_putF (ci := 2) (C := RX2) (T := TX2) (n := 6) hx hb ht ui_X2 tyX2 tyX2_ok nmX2 hown hK hX hS ⟨by omega, by omega⟩ hb0 rfl 0 (by decide) (ht _ uw_252) rfl (hnm.trans rfl) rfl rfl rfl (Nat.le_of_ble_eq_true rfl) dX2_init_6 (fun H locs hX hS => ?_)
  obtain ⟨M1x, eM⟩ : ∃ M1 : MM, M1 = va_up M0 (b) (.inr (2, [.ref (a), .int 0, .int 0, .int 0, .int 0, .int 0])) := ⟨_, rfl⟩
  have hX : HX g X (b + 1) M1x H := by rw [eM]; exact hX
  have lo : ∀ q, q < b → M1x (q) = M0 q := fun q hq => by rw [eM]; exact (va_up_ne _ _ (by omega)).trans (lo q hq)
  have hb0 : M1x (b) = .inr (2, [.ref (a), .int 0, .int 0, .int 0, .int 0, .int 0]) := by rw [eM]; exact va_up_self _ _ _
  refine W.widen (k := 0) (n := 0) (by omega) (by omega) ?_
  subst hQ
  exact x_vret hx hb hr hlk hK hX hS dX2_init_9 (⟨lo, hb0⟩)

set_option maxHeartbeats 4000000 in
set_option maxRecDepth 100000 in
/-- the object -/
theorem k_X7_init (l : Launch) (g : GG) (X b : Nat) (M0 : MM) (hb0 : M0 (b) = .inr (7, [.null, .null, .null, .null, .null, .null, .null])) (hXb : X ≤ b) : Met l yX7_init (Uw yX7_init cX7_init 2 (Option.none : Option ClassFile.FieldType)) (rmC 5 357 2420) (PreX [.ref b] g X (b + 1) M0) (PosX (fun M1 => (∀ q, q < b → M1 q = M0 q) ∧ RepX g (fun _ => True) M1 b id iniV (fun _ => iniV) 0 (fun _ => iniV) (fun _ => 0) (fun _ => 0) 0) g X (b + 358)) 357 2420 (upX X) := by
  refine mk_MetX (own := RX7) rfl rfl (by decide) (Nat.le_of_ble_eq_true rfl) ?_
  intro p e s m below meth c ls aa Q haa hQ hx hb hr hlk hml hown hts hK hNW hX hS hl hnm
  have ht : ∀ w ∈ lw_good, w.before _ s = true := fun w h => hts w (List.mem_cons_of_mem _ h)
  have hl : lv_has ls 2 [(0, .ref b)] := hl
  have lo : ∀ q, q < b → M0 q = M0 q := fun _ _ => rfl
  refine lv_aload_n hx hb dX7_init_0 rfl (lv_at hl 0 rfl) ?_
  refine W.objInit hx hb hown (ht _ uw_49) (ht _ uw_50) (ht _ uw_51) rfl (by rw [hml]; exact hl.1) rfl dX7_init_1 (Nat.le_of_ble_eq_true rfl) (Nat.le_of_ble_eq_true rfl) ?_
  refine lv_aload_n hx hb dX7_init_4 rfl (lv_at hl 0 rfl) ?_
  refine x_new (ci := 6) (fs := [.int 0, .int 0, .int 0, .int 0, .null, .null]) (C := RX6) (T := TX6) (n := 6) hx hb ht ui_X6 tyX6 tyX6_ok hown (ht _ uw_52) (ht _ uw_53) (ht _ uw_35) hK hX hS rfl (fun j hj => by rcases (by omega : j = 0 ∨ j = 1 ∨ j = 2 ∨ j = 3 ∨ j = 4 ∨ j = 5) with rfl | rfl | rfl | rfl | rfl | rfl <;> rfl) (Nat.le_of_ble_eq_true rfl) (Nat.le_of_ble_eq_true rfl) dX7_init_5 (fun H hX hS => ?_)
  obtain ⟨M1x, eM⟩ : ∃ M1 : MM, M1 = va_up M0 (b + 1) (.inr (6, [.int 0, .int 0, .int 0, .int 0, .null, .null])) := ⟨_, rfl⟩
  have hX : HX g X (b + 2) M1x H := by rw [eM]; exact hX
  have lo : ∀ q, q < b → M1x (q) = M0 q := fun q hq => by rw [eM]; exact (va_up_ne _ _ (by omega)).trans (lo q hq)
  have hb0 : M1x (b) = .inr (7, [.null, .null, .null, .null, .null, .null, .null]) := by rw [eM]; exact (va_up_ne _ _ (by omega)).trans (hb0 )
  have hn1 : M1x (b + 1) = .inr (6, [.int 0, .int 0, .int 0, .int 0, .null, .null]) := by rw [eM]; exact va_up_self _ _ _
  refine lv_dup hx hb dX7_init_8 rfl ?_
  refine x_callI (As := []) (rest := [.ref (b + 1), .ref (b)]) ⟨hx, hb, hml, hown, ht⟩ (k_X6_init l g X (b + 1) M1x hn1 (by omega)) (cwI 0 ht (gUI uw_56) rfl rfl rfl (ht _ uw_35) (ht _ uw_54) (ht _ uw_55) rfl (by decide +kernel) ⟨by decide, by decide⟩) hK hNW hX hS rfl hl.1 rfl (Nat.le_of_ble_eq_true rfl) dX7_init_9 ⟨Nat.le_of_ble_eq_true rfl, Nat.le_of_ble_eq_true rfl⟩ (fun M2x H locs hp hX hS => ?_)
  obtain ⟨lo1, hv9⟩ := hp
  have lo : ∀ q, q < b → M2x (q) = M0 q := fun q hq => (lo1 _ (by omega)).trans (lo q hq)
  have hb0 : M2x (b) = .inr (7, [.null, .null, .null, .null, .null, .null, .null]) := (lo1 _ (by omega)).trans (hb0 )
  have hnow : RepV g (fun _ => True) M2x (b + 1) id iniV := hv9
  have hX : HX g X (b + 36) M2x H := hX
  refine x_putF (ci := 7) (C := RX7) (T := TX7) (n := 7) hx hb ht ui_X7 tyX7 tyX7_ok nmX7 hown hK hX hS ⟨by omega, by omega⟩ hb0 rfl 0 (by decide) (ht _ uw_275) rfl (hnm.trans rfl) rfl rfl rfl (Nat.le_of_ble_eq_true rfl) dX7_init_12 (fun H locs hX hS => ?_)
  obtain ⟨M3x, eM⟩ : ∃ M1 : MM, M1 = va_up M2x (b) (.inr (7, [.ref (b + 1), .null, .null, .null, .null, .null, .null])) := ⟨_, rfl⟩
  have hX : HX g X (b + 36) M3x H := by rw [eM]; exact hX
  have lo : ∀ q, q < b → M3x (q) = M0 q := fun q hq => by rw [eM]; exact (va_up_ne _ _ (by omega)).trans (lo q hq)
  have hb0 : M3x (b) = .inr (7, [.ref (b + 1), .null, .null, .null, .null, .null, .null]) := by rw [eM]; exact va_up_self _ _ _
  have hnow : RepV g (fun _ => True) M3x (b + 1) id iniV := (hnow ).agr (fun q z1 z2 => by rw [eM]; exact va_up_ne _ _ (by omega))
  refine lv_aload_n hx hb dX7_init_15 rfl (lv_at hl 0 rfl) ?_
  refine x_new (ci := 6) (fs := [.int 0, .int 0, .int 0, .int 0, .null, .null]) (C := RX6) (T := TX6) (n := 6) hx hb ht ui_X6 tyX6 tyX6_ok hown (ht _ uw_52) (ht _ uw_53) (ht _ uw_35) hK hX hS rfl (fun j hj => by rcases (by omega : j = 0 ∨ j = 1 ∨ j = 2 ∨ j = 3 ∨ j = 4 ∨ j = 5) with rfl | rfl | rfl | rfl | rfl | rfl <;> rfl) (Nat.le_of_ble_eq_true rfl) (Nat.le_of_ble_eq_true rfl) dX7_init_16 (fun H hX hS => ?_)
  obtain ⟨M4x, eM⟩ : ∃ M1 : MM, M1 = va_up M3x (b + 36) (.inr (6, [.int 0, .int 0, .int 0, .int 0, .null, .null])) := ⟨_, rfl⟩
  have hX : HX g X (b + 37) M4x H := by rw [eM]; exact hX
  have lo : ∀ q, q < b → M4x (q) = M0 q := fun q hq => by rw [eM]; exact (va_up_ne _ _ (by omega)).trans (lo q hq)
  have hb0 : M4x (b) = .inr (7, [.ref (b + 1), .null, .null, .null, .null, .null, .null]) := by rw [eM]; exact (va_up_ne _ _ (by omega)).trans (hb0 )
  have hnow : RepV g (fun _ => True) M4x (b + 1) id iniV := (hnow ).agr (fun q z1 z2 => by rw [eM]; exact va_up_ne _ _ (by omega))
  have hn2 : M4x (b + 36) = .inr (6, [.int 0, .int 0, .int 0, .int 0, .null, .null]) := by rw [eM]; exact va_up_self _ _ _
  refine lv_dup hx hb dX7_init_19 rfl ?_
  refine x_callI (As := []) (rest := [.ref (b + 36), .ref (b)]) ⟨hx, hb, hml, hown, ht⟩ (k_X6_init l g X (b + 36) M4x hn2 (by omega)) (cwI 0 ht (gUI uw_56) rfl rfl rfl (ht _ uw_35) (ht _ uw_54) (ht _ uw_55) rfl (by decide +kernel) ⟨by decide, by decide⟩) hK hNW hX hS rfl hl.1 rfl (Nat.le_of_ble_eq_true rfl) dX7_init_20 ⟨Nat.le_of_ble_eq_true rfl, Nat.le_of_ble_eq_true rfl⟩ (fun M5x H locs hp hX hS => ?_)
  obtain ⟨lo1, hv9⟩ := hp
  have lo : ∀ q, q < b → M5x (q) = M0 q := fun q hq => (lo1 _ (by omega)).trans (lo q hq)
  have hb0 : M5x (b) = .inr (7, [.ref (b + 1), .null, .null, .null, .null, .null, .null]) := (lo1 _ (by omega)).trans (hb0 )
  have hnow : RepV g (fun _ => True) M5x (b + 1) id iniV := (hnow ).agr (fun q z1 z2 => lo1 q (by omega))
  have htri : RepV g (fun _ => True) M5x (b + 36) id iniV := hv9
  have hX : HX g X (b + 71) M5x H := hX
  refine x_putF (ci := 7) (C := RX7) (T := TX7) (n := 7) hx hb ht ui_X7 tyX7 tyX7_ok nmX7 hown hK hX hS ⟨by omega, by omega⟩ hb0 rfl 1 (by decide) (ht _ uw_276) rfl (hnm.trans rfl) rfl rfl rfl (Nat.le_of_ble_eq_true rfl) dX7_init_23 (fun H locs hX hS => ?_)
  obtain ⟨M6x, eM⟩ : ∃ M1 : MM, M1 = va_up M5x (b) (.inr (7, [.ref (b + 1), .ref (b + 36), .null, .null, .null, .null, .null])) := ⟨_, rfl⟩
  have hX : HX g X (b + 71) M6x H := by rw [eM]; exact hX
  have lo : ∀ q, q < b → M6x (q) = M0 q := fun q hq => by rw [eM]; exact (va_up_ne _ _ (by omega)).trans (lo q hq)
  have hb0 : M6x (b) = .inr (7, [.ref (b + 1), .ref (b + 36), .null, .null, .null, .null, .null]) := by rw [eM]; exact va_up_self _ _ _
  have hnow : RepV g (fun _ => True) M6x (b + 1) id iniV := (hnow ).agr (fun q z1 z2 => by rw [eM]; exact va_up_ne _ _ (by omega))
  have htri : RepV g (fun _ => True) M6x (b + 36) id iniV := (htri ).agr (fun q z1 z2 => by rw [eM]; exact va_up_ne _ _ (by omega))
  refine lv_aload_n hx hb dX7_init_26 rfl (lv_at hl 0 rfl) ?_
  refine x_new (ci := 1) (fs := [.null, .int 0]) (C := RX1) (T := TX1) (n := 2) hx hb ht ui_X1 tyX1 tyX1_ok hown (ht _ uw_212) (ht _ uw_213) (ht _ uw_39) hK hX hS rfl (fun j hj => by rcases (by omega : j = 0 ∨ j = 1) with rfl | rfl <;> rfl) (Nat.le_of_ble_eq_true rfl) (Nat.le_of_ble_eq_true rfl) dX7_init_27 (fun H hX hS => ?_)
  obtain ⟨M7x, eM⟩ : ∃ M1 : MM, M1 = va_up M6x (b + 71) (.inr (1, [.null, .int 0])) := ⟨_, rfl⟩
  have hX : HX g X (b + 72) M7x H := by rw [eM]; exact hX
  have lo : ∀ q, q < b → M7x (q) = M0 q := fun q hq => by rw [eM]; exact (va_up_ne _ _ (by omega)).trans (lo q hq)
  have hb0 : M7x (b) = .inr (7, [.ref (b + 1), .ref (b + 36), .null, .null, .null, .null, .null]) := by rw [eM]; exact (va_up_ne _ _ (by omega)).trans (hb0 )
  have hnow : RepV g (fun _ => True) M7x (b + 1) id iniV := (hnow ).agr (fun q z1 z2 => by rw [eM]; exact va_up_ne _ _ (by omega))
  have htri : RepV g (fun _ => True) M7x (b + 36) id iniV := (htri ).agr (fun q z1 z2 => by rw [eM]; exact va_up_ne _ _ (by omega))
  have hn3 : M7x (b + 71) = .inr (1, [.null, .int 0]) := by rw [eM]; exact va_up_self _ _ _
  refine lv_dup hx hb dX7_init_30 rfl ?_
  refine x_callI (As := []) (rest := [.ref (b + 71), .ref (b)]) ⟨hx, hb, hml, hown, ht⟩ (k_X1_init l g X (b + 71) M7x hn3 (by omega)) (cwI 0 ht (gUI uw_216) rfl rfl rfl (ht _ uw_39) (ht _ uw_214) (ht _ uw_215) rfl (by decide +kernel) ⟨by decide, by decide⟩) hK hNW hX hS rfl hl.1 rfl (Nat.le_of_ble_eq_true rfl) dX7_init_31 ⟨Nat.le_of_ble_eq_true rfl, Nat.le_of_ble_eq_true rfl⟩ (fun M8x H locs hp hX hS => ?_)
  obtain ⟨lo1, hv9⟩ := hp
  have lo : ∀ q, q < b → M8x (q) = M0 q := fun q hq => (lo1 _ (by omega)).trans (lo q hq)
  have hb0 : M8x (b) = .inr (7, [.ref (b + 1), .ref (b + 36), .null, .null, .null, .null, .null]) := (lo1 _ (by omega)).trans (hb0 )
  have hnow : RepV g (fun _ => True) M8x (b + 1) id iniV := (hnow ).agr (fun q z1 z2 => lo1 q (by omega))
  have htri : RepV g (fun _ => True) M8x (b + 36) id iniV := (htri ).agr (fun q z1 z2 => lo1 q (by omega))
  have hhis : RepH g (fun _ => True) M8x (b + 71) id (fun _ => id) (fun _ => iniV) 0 := hv9
  have hX : HX g X (b + 283) M8x H := hX
  refine x_putF (ci := 7) (C := RX7) (T := TX7) (n := 7) hx hb ht ui_X7 tyX7 tyX7_ok nmX7 hown hK hX hS ⟨by omega, by omega⟩ hb0 rfl 2 (by decide) (ht _ uw_277) rfl (hnm.trans rfl) rfl rfl rfl (Nat.le_of_ble_eq_true rfl) dX7_init_34 (fun H locs hX hS => ?_)
  obtain ⟨M9x, eM⟩ : ∃ M1 : MM, M1 = va_up M8x (b) (.inr (7, [.ref (b + 1), .ref (b + 36), .ref (b + 71), .null, .null, .null, .null])) := ⟨_, rfl⟩
  have hX : HX g X (b + 283) M9x H := by rw [eM]; exact hX
  have lo : ∀ q, q < b → M9x (q) = M0 q := fun q hq => by rw [eM]; exact (va_up_ne _ _ (by omega)).trans (lo q hq)
  have hb0 : M9x (b) = .inr (7, [.ref (b + 1), .ref (b + 36), .ref (b + 71), .null, .null, .null, .null]) := by rw [eM]; exact va_up_self _ _ _
  have hnow : RepV g (fun _ => True) M9x (b + 1) id iniV := (hnow ).agr (fun q z1 z2 => by rw [eM]; exact va_up_ne _ _ (by omega))
  have htri : RepV g (fun _ => True) M9x (b + 36) id iniV := (htri ).agr (fun q z1 z2 => by rw [eM]; exact va_up_ne _ _ (by omega))
  have hhis : RepH g (fun _ => True) M9x (b + 71) id (fun _ => id) (fun _ => iniV) 0 := (hhis ).agr (fun q z1 z2 => by rw [eM]; exact va_up_ne _ _ (by omega))
  refine lv_aload_n hx hb dX7_init_37 rfl (lv_at hl 0 rfl) ?_
  refine lv_iconst (v := nI 2) hx hb dX7_init_38 (by first | rfl | decide) ?_
  refine x_newq (C := RX6) hx hb hown (ht _ uw_52) hNW.2.2.2.2.2 hK hX hS 5 rfl (nI_pos (by omega)) (nI_clamp (by omega)) (Nat.le_of_ble_eq_true rfl) (Nat.le_of_ble_eq_true rfl) (Nat.le_of_ble_eq_true rfl) dX7_init_39 (fun H hX hS => ?_)
  obtain ⟨M10x, eM⟩ : ∃ M1 : MM, M1 = va_up M9x (b + 283) (.inl (g.2 5, 2, .inr (.inr (.inr (.inr (fun _ => none)))))) := ⟨_, rfl⟩
  have hX : HX g X (b + 284) M10x H := by rw [eM]; exact hX
  have lo : ∀ q, q < b → M10x (q) = M0 q := fun q hq => by rw [eM]; exact (va_up_ne _ _ (by omega)).trans (lo q hq)
  have hb0 : M10x (b) = .inr (7, [.ref (b + 1), .ref (b + 36), .ref (b + 71), .null, .null, .null, .null]) := by rw [eM]; exact (va_up_ne _ _ (by omega)).trans (hb0 )
  have hnow : RepV g (fun _ => True) M10x (b + 1) id iniV := (hnow ).agr (fun q z1 z2 => by rw [eM]; exact va_up_ne _ _ (by omega))
  have htri : RepV g (fun _ => True) M10x (b + 36) id iniV := (htri ).agr (fun q z1 z2 => by rw [eM]; exact va_up_ne _ _ (by omega))
  have hhis : RepH g (fun _ => True) M10x (b + 71) id (fun _ => id) (fun _ => iniV) 0 := (hhis ).agr (fun q z1 z2 => by rw [eM]; exact va_up_ne _ _ (by omega))
  have hga : M10x (b + 283) = .inl (g.2 5, 2, .inr (.inr (.inr (.inr (fun _ => none))))) := by rw [eM]; exact va_up_self _ _ _
  refine x_putF (ci := 7) (C := RX7) (T := TX7) (n := 7) hx hb ht ui_X7 tyX7 tyX7_ok nmX7 hown hK hX hS ⟨by omega, by omega⟩ hb0 rfl 3 (by decide) (ht _ uw_278) rfl (hnm.trans rfl) rfl rfl rfl (Nat.le_of_ble_eq_true rfl) dX7_init_42 (fun H locs hX hS => ?_)
  obtain ⟨M11x, eM⟩ : ∃ M1 : MM, M1 = va_up M10x (b) (.inr (7, [.ref (b + 1), .ref (b + 36), .ref (b + 71), .ref (b + 283), .null, .null, .null])) := ⟨_, rfl⟩
  have hX : HX g X (b + 284) M11x H := by rw [eM]; exact hX
  have lo : ∀ q, q < b → M11x (q) = M0 q := fun q hq => by rw [eM]; exact (va_up_ne _ _ (by omega)).trans (lo q hq)
  have hb0 : M11x (b) = .inr (7, [.ref (b + 1), .ref (b + 36), .ref (b + 71), .ref (b + 283), .null, .null, .null]) := by rw [eM]; exact va_up_self _ _ _
  have hnow : RepV g (fun _ => True) M11x (b + 1) id iniV := (hnow ).agr (fun q z1 z2 => by rw [eM]; exact va_up_ne _ _ (by omega))
  have htri : RepV g (fun _ => True) M11x (b + 36) id iniV := (htri ).agr (fun q z1 z2 => by rw [eM]; exact va_up_ne _ _ (by omega))
  have hhis : RepH g (fun _ => True) M11x (b + 71) id (fun _ => id) (fun _ => iniV) 0 := (hhis ).agr (fun q z1 z2 => by rw [eM]; exact va_up_ne _ _ (by omega))
  have hga : M11x (b + 283) = .inl (g.2 5, 2, .inr (.inr (.inr (.inr (fun _ => none))))) := by rw [eM]; exact (va_up_ne _ _ (by omega)).trans (hga )
  refine lv_aload_n hx hb dX7_init_45 rfl (lv_at hl 0 rfl) ?_
  refine lv_iconst (v := nI 2) hx hb dX7_init_46 (by first | rfl | decide) ?_
  refine x_newa (atype := .boolean) hx hb (ht _ uw_244) hK hX hS 2 rfl (fun z => z) rfl (nI_pos (by omega)) (nI_clamp (by omega)) (Nat.le_of_ble_eq_true rfl) (Nat.le_of_ble_eq_true rfl) (Nat.le_of_ble_eq_true rfl) dX7_init_47 (fun H hX hS => ?_)
  obtain ⟨M12x, eM⟩ : ∃ M1 : MM, M1 = va_up M11x (b + 284) (.inl (g.2 2, 2, .inl (fun _ => 0))) := ⟨_, rfl⟩
  have hX : HX g X (b + 285) M12x H := by rw [eM]; exact hX
  have lo : ∀ q, q < b → M12x (q) = M0 q := fun q hq => by rw [eM]; exact (va_up_ne _ _ (by omega)).trans (lo q hq)
  have hb0 : M12x (b) = .inr (7, [.ref (b + 1), .ref (b + 36), .ref (b + 71), .ref (b + 283), .null, .null, .null]) := by rw [eM]; exact (va_up_ne _ _ (by omega)).trans (hb0 )
  have hnow : RepV g (fun _ => True) M12x (b + 1) id iniV := (hnow ).agr (fun q z1 z2 => by rw [eM]; exact va_up_ne _ _ (by omega))
  have htri : RepV g (fun _ => True) M12x (b + 36) id iniV := (htri ).agr (fun q z1 z2 => by rw [eM]; exact va_up_ne _ _ (by omega))
  have hhis : RepH g (fun _ => True) M12x (b + 71) id (fun _ => id) (fun _ => iniV) 0 := (hhis ).agr (fun q z1 z2 => by rw [eM]; exact va_up_ne _ _ (by omega))
  have hga : M12x (b + 283) = .inl (g.2 5, 2, .inr (.inr (.inr (.inr (fun _ => none))))) := by rw [eM]; exact (va_up_ne _ _ (by omega)).trans (hga )
  have hsv : M12x (b + 284) = .inl (g.2 2, 2, .inl (fun _ => 0)) := by rw [eM]; exact va_up_self _ _ _
  refine x_putF (ci := 7) (C := RX7) (T := TX7) (n := 7) hx hb ht ui_X7 tyX7 tyX7_ok nmX7 hown hK hX hS ⟨by omega, by omega⟩ hb0 rfl 4 (by decide) (ht _ uw_279) rfl (hnm.trans rfl) rfl rfl rfl (Nat.le_of_ble_eq_true rfl) dX7_init_49 (fun H locs hX hS => ?_)
  obtain ⟨M13x, eM⟩ : ∃ M1 : MM, M1 = va_up M12x (b) (.inr (7, [.ref (b + 1), .ref (b + 36), .ref (b + 71), .ref (b + 283), .ref (b + 284), .null, .null])) := ⟨_, rfl⟩
  have hX : HX g X (b + 285) M13x H := by rw [eM]; exact hX
  have lo : ∀ q, q < b → M13x (q) = M0 q := fun q hq => by rw [eM]; exact (va_up_ne _ _ (by omega)).trans (lo q hq)
  have hb0 : M13x (b) = .inr (7, [.ref (b + 1), .ref (b + 36), .ref (b + 71), .ref (b + 283), .ref (b + 284), .null, .null]) := by rw [eM]; exact va_up_self _ _ _
  have hnow : RepV g (fun _ => True) M13x (b + 1) id iniV := (hnow ).agr (fun q z1 z2 => by rw [eM]; exact va_up_ne _ _ (by omega))
  have htri : RepV g (fun _ => True) M13x (b + 36) id iniV := (htri ).agr (fun q z1 z2 => by rw [eM]; exact va_up_ne _ _ (by omega))
  have hhis : RepH g (fun _ => True) M13x (b + 71) id (fun _ => id) (fun _ => iniV) 0 := (hhis ).agr (fun q z1 z2 => by rw [eM]; exact va_up_ne _ _ (by omega))
  have hga : M13x (b + 283) = .inl (g.2 5, 2, .inr (.inr (.inr (.inr (fun _ => none))))) := by rw [eM]; exact (va_up_ne _ _ (by omega)).trans (hga )
  have hsv : M13x (b + 284) = .inl (g.2 2, 2, .inl (fun _ => 0)) := by rw [eM]; exact (va_up_ne _ _ (by omega)).trans (hsv )
  refine lv_aload_n hx hb dX7_init_52 rfl (lv_at hl 0 rfl) ?_
  refine x_new (ci := 3) (fs := [.null, .int 0]) (C := RX3) (T := TX3) (n := 2) hx hb ht ui_X3 tyX3 tyX3_ok hown (ht _ uw_229) (ht _ uw_230) (ht _ uw_40) hK hX hS rfl (fun j hj => by rcases (by omega : j = 0 ∨ j = 1) with rfl | rfl <;> rfl) (Nat.le_of_ble_eq_true rfl) (Nat.le_of_ble_eq_true rfl) dX7_init_53 (fun H hX hS => ?_)
  obtain ⟨M14x, eM⟩ : ∃ M1 : MM, M1 = va_up M13x (b + 285) (.inr (3, [.null, .int 0])) := ⟨_, rfl⟩
  have hX : HX g X (b + 286) M14x H := by rw [eM]; exact hX
  have lo : ∀ q, q < b → M14x (q) = M0 q := fun q hq => by rw [eM]; exact (va_up_ne _ _ (by omega)).trans (lo q hq)
  have hb0 : M14x (b) = .inr (7, [.ref (b + 1), .ref (b + 36), .ref (b + 71), .ref (b + 283), .ref (b + 284), .null, .null]) := by rw [eM]; exact (va_up_ne _ _ (by omega)).trans (hb0 )
  have hnow : RepV g (fun _ => True) M14x (b + 1) id iniV := (hnow ).agr (fun q z1 z2 => by rw [eM]; exact va_up_ne _ _ (by omega))
  have htri : RepV g (fun _ => True) M14x (b + 36) id iniV := (htri ).agr (fun q z1 z2 => by rw [eM]; exact va_up_ne _ _ (by omega))
  have hhis : RepH g (fun _ => True) M14x (b + 71) id (fun _ => id) (fun _ => iniV) 0 := (hhis ).agr (fun q z1 z2 => by rw [eM]; exact va_up_ne _ _ (by omega))
  have hga : M14x (b + 283) = .inl (g.2 5, 2, .inr (.inr (.inr (.inr (fun _ => none))))) := by rw [eM]; exact (va_up_ne _ _ (by omega)).trans (hga )
  have hsv : M14x (b + 284) = .inl (g.2 2, 2, .inl (fun _ => 0)) := by rw [eM]; exact (va_up_ne _ _ (by omega)).trans (hsv )
  have hn4 : M14x (b + 285) = .inr (3, [.null, .int 0]) := by rw [eM]; exact va_up_self _ _ _
  refine lv_dup hx hb dX7_init_56 rfl ?_
  refine x_callN (As := []) (rest := [.ref (b + 285), .ref (b)]) ⟨hx, hb, hml, hown, ht⟩ (k_X3_init l g X (b + 285) M14x hn4 (by omega)) ⟨va_cnB 0 ht (gUI uw_233) rfl rfl rfl hNW.2.2.1 (ht _ uw_40) (by decide +kernel) ⟨by decide, by decide⟩, rfl, (ht _ uw_232)⟩ hK hNW hX hS rfl hl.1 rfl (Nat.le_of_ble_eq_true rfl) dX7_init_57 ⟨Nat.le_of_ble_eq_true rfl, Nat.le_of_ble_eq_true rfl⟩ (fun M15x H locs hp hX hS => ?_)
  obtain ⟨lo1, hpd, hsg⟩ := hp
  have lo : ∀ q, q < b → M15x (q) = M0 q := fun q hq => (lo1 _ (by omega)).trans (lo q hq)
  have hb0 : M15x (b) = .inr (7, [.ref (b + 1), .ref (b + 36), .ref (b + 71), .ref (b + 283), .ref (b + 284), .null, .null]) := (lo1 _ (by omega)).trans (hb0 )
  have hnow : RepV g (fun _ => True) M15x (b + 1) id iniV := (hnow ).agr (fun q z1 z2 => lo1 q (by omega))
  have htri : RepV g (fun _ => True) M15x (b + 36) id iniV := (htri ).agr (fun q z1 z2 => lo1 q (by omega))
  have hhis : RepH g (fun _ => True) M15x (b + 71) id (fun _ => id) (fun _ => iniV) 0 := (hhis ).agr (fun q z1 z2 => lo1 q (by omega))
  have hga : M15x (b + 283) = .inl (g.2 5, 2, .inr (.inr (.inr (.inr (fun _ => none))))) := (lo1 _ (by omega)).trans (hga )
  have hsv : M15x (b + 284) = .inl (g.2 2, 2, .inl (fun _ => 0)) := (lo1 _ (by omega)).trans (hsv )
  have hpd : M15x (b + 285) = .inr (3, [.ref (b + 286), .int 0]) := hpd
  have hsg : M15x (b + 286) = .inl (g.2 0, 60, .inl (fun _ => 0)) := hsg
  have hX : HX g X (b + 287) M15x H := hX
  refine x_putF (ci := 7) (C := RX7) (T := TX7) (n := 7) hx hb ht ui_X7 tyX7 tyX7_ok nmX7 hown hK hX hS ⟨by omega, by omega⟩ hb0 rfl 5 (by decide) (ht _ uw_280) rfl (hnm.trans rfl) rfl rfl rfl (Nat.le_of_ble_eq_true rfl) dX7_init_60 (fun H locs hX hS => ?_)
  obtain ⟨M16x, eM⟩ : ∃ M1 : MM, M1 = va_up M15x (b) (.inr (7, [.ref (b + 1), .ref (b + 36), .ref (b + 71), .ref (b + 283), .ref (b + 284), .ref (b + 285), .null])) := ⟨_, rfl⟩
  have hX : HX g X (b + 287) M16x H := by rw [eM]; exact hX
  have lo : ∀ q, q < b → M16x (q) = M0 q := fun q hq => by rw [eM]; exact (va_up_ne _ _ (by omega)).trans (lo q hq)
  have hb0 : M16x (b) = .inr (7, [.ref (b + 1), .ref (b + 36), .ref (b + 71), .ref (b + 283), .ref (b + 284), .ref (b + 285), .null]) := by rw [eM]; exact va_up_self _ _ _
  have hnow : RepV g (fun _ => True) M16x (b + 1) id iniV := (hnow ).agr (fun q z1 z2 => by rw [eM]; exact va_up_ne _ _ (by omega))
  have htri : RepV g (fun _ => True) M16x (b + 36) id iniV := (htri ).agr (fun q z1 z2 => by rw [eM]; exact va_up_ne _ _ (by omega))
  have hhis : RepH g (fun _ => True) M16x (b + 71) id (fun _ => id) (fun _ => iniV) 0 := (hhis ).agr (fun q z1 z2 => by rw [eM]; exact va_up_ne _ _ (by omega))
  have hga : M16x (b + 283) = .inl (g.2 5, 2, .inr (.inr (.inr (.inr (fun _ => none))))) := by rw [eM]; exact (va_up_ne _ _ (by omega)).trans (hga )
  have hsv : M16x (b + 284) = .inl (g.2 2, 2, .inl (fun _ => 0)) := by rw [eM]; exact (va_up_ne _ _ (by omega)).trans (hsv )
  have hpd : M16x (b + 285) = .inr (3, [.ref (b + 286), .int 0]) := by rw [eM]; exact (va_up_ne _ _ (by omega)).trans (hpd )
  have hsg : M16x (b + 286) = .inl (g.2 0, 60, .inl (fun _ => 0)) := by rw [eM]; exact (va_up_ne _ _ (by omega)).trans (hsg )
  refine lv_aload_n hx hb dX7_init_63 rfl (lv_at hl 0 rfl) ?_
  refine x_new (ci := 2) (fs := [.null, .int 0, .int 0, .int 0, .int 0, .int 0]) (C := RX2) (T := TX2) (n := 6) hx hb ht ui_X2 tyX2 tyX2_ok hown (ht _ uw_246) (ht _ uw_247) (ht _ uw_41) hK hX hS rfl (fun j hj => by rcases (by omega : j = 0 ∨ j = 1 ∨ j = 2 ∨ j = 3 ∨ j = 4 ∨ j = 5) with rfl | rfl | rfl | rfl | rfl | rfl <;> rfl) (Nat.le_of_ble_eq_true rfl) (Nat.le_of_ble_eq_true rfl) dX7_init_64 (fun H hX hS => ?_)
  obtain ⟨M17x, eM⟩ : ∃ M1 : MM, M1 = va_up M16x (b + 287) (.inr (2, [.null, .int 0, .int 0, .int 0, .int 0, .int 0])) := ⟨_, rfl⟩
  have hX : HX g X (b + 288) M17x H := by rw [eM]; exact hX
  have lo : ∀ q, q < b → M17x (q) = M0 q := fun q hq => by rw [eM]; exact (va_up_ne _ _ (by omega)).trans (lo q hq)
  have hb0 : M17x (b) = .inr (7, [.ref (b + 1), .ref (b + 36), .ref (b + 71), .ref (b + 283), .ref (b + 284), .ref (b + 285), .null]) := by rw [eM]; exact (va_up_ne _ _ (by omega)).trans (hb0 )
  have hnow : RepV g (fun _ => True) M17x (b + 1) id iniV := (hnow ).agr (fun q z1 z2 => by rw [eM]; exact va_up_ne _ _ (by omega))
  have htri : RepV g (fun _ => True) M17x (b + 36) id iniV := (htri ).agr (fun q z1 z2 => by rw [eM]; exact va_up_ne _ _ (by omega))
  have hhis : RepH g (fun _ => True) M17x (b + 71) id (fun _ => id) (fun _ => iniV) 0 := (hhis ).agr (fun q z1 z2 => by rw [eM]; exact va_up_ne _ _ (by omega))
  have hga : M17x (b + 283) = .inl (g.2 5, 2, .inr (.inr (.inr (.inr (fun _ => none))))) := by rw [eM]; exact (va_up_ne _ _ (by omega)).trans (hga )
  have hsv : M17x (b + 284) = .inl (g.2 2, 2, .inl (fun _ => 0)) := by rw [eM]; exact (va_up_ne _ _ (by omega)).trans (hsv )
  have hpd : M17x (b + 285) = .inr (3, [.ref (b + 286), .int 0]) := by rw [eM]; exact (va_up_ne _ _ (by omega)).trans (hpd )
  have hsg : M17x (b + 286) = .inl (g.2 0, 60, .inl (fun _ => 0)) := by rw [eM]; exact (va_up_ne _ _ (by omega)).trans (hsg )
  have hn5 : M17x (b + 287) = .inr (2, [.null, .int 0, .int 0, .int 0, .int 0, .int 0]) := by rw [eM]; exact va_up_self _ _ _
  refine lv_dup hx hb dX7_init_67 rfl ?_
  refine lv_aload_n hx hb dX7_init_68 rfl (lv_at hl 0 rfl) ?_
  refine m_get (ci := 7) (C := RX7) (T := TX7) (N := 7) hx hb ht ui_X7 hown hK hX.2 (⟨by omega, by omega⟩ : dm X (b + 288) (b)) hb0 rfl 5 (by decide) (ht _ uw_280) rfl dX7_init_69 ?_
  refine x_callI (As := [.ref (b + 285)]) (rest := [.ref (b + 287), .ref (b)]) ⟨hx, hb, hml, hown, ht⟩ (k_X2_init l g X (b + 287) M17x (b + 285) hn5 (by omega)) (cwI 1 ht (gUI uw_250) rfl rfl rfl (ht _ uw_41) (ht _ uw_248) (ht _ uw_249) rfl (by decide +kernel) ⟨by decide, by decide⟩) hK hNW hX hS rfl hl.1 rfl (Nat.le_of_ble_eq_true rfl) dX7_init_72 ⟨Nat.le_of_ble_eq_true rfl, Nat.le_of_ble_eq_true rfl⟩ (fun M18x H locs hp hX hS => ?_)
  obtain ⟨lo1, hrd⟩ := hp
  have lo : ∀ q, q < b → M18x (q) = M0 q := fun q hq => (lo1 _ (by omega)).trans (lo q hq)
  have hb0 : M18x (b) = .inr (7, [.ref (b + 1), .ref (b + 36), .ref (b + 71), .ref (b + 283), .ref (b + 284), .ref (b + 285), .null]) := (lo1 _ (by omega)).trans (hb0 )
  have hnow : RepV g (fun _ => True) M18x (b + 1) id iniV := (hnow ).agr (fun q z1 z2 => lo1 q (by omega))
  have htri : RepV g (fun _ => True) M18x (b + 36) id iniV := (htri ).agr (fun q z1 z2 => lo1 q (by omega))
  have hhis : RepH g (fun _ => True) M18x (b + 71) id (fun _ => id) (fun _ => iniV) 0 := (hhis ).agr (fun q z1 z2 => lo1 q (by omega))
  have hga : M18x (b + 283) = .inl (g.2 5, 2, .inr (.inr (.inr (.inr (fun _ => none))))) := (lo1 _ (by omega)).trans (hga )
  have hsv : M18x (b + 284) = .inl (g.2 2, 2, .inl (fun _ => 0)) := (lo1 _ (by omega)).trans (hsv )
  have hpd : M18x (b + 285) = .inr (3, [.ref (b + 286), .int 0]) := (lo1 _ (by omega)).trans (hpd )
  have hsg : M18x (b + 286) = .inl (g.2 0, 60, .inl (fun _ => 0)) := (lo1 _ (by omega)).trans (hsg )
  have hrd : M18x (b + 287) = .inr (2, [.ref (b + 285), .int 0, .int 0, .int 0, .int 0, .int 0]) := hrd
  have hX : HX g X (b + 288) M18x H := hX
  refine x_putF (ci := 7) (C := RX7) (T := TX7) (n := 7) hx hb ht ui_X7 tyX7 tyX7_ok nmX7 hown hK hX hS ⟨by omega, by omega⟩ hb0 rfl 6 (by decide) (ht _ uw_281) rfl (hnm.trans rfl) rfl rfl rfl (Nat.le_of_ble_eq_true rfl) dX7_init_75 (fun H locs hX hS => ?_)
  obtain ⟨M19x, eM⟩ : ∃ M1 : MM, M1 = va_up M18x (b) (.inr (7, [.ref (b + 1), .ref (b + 36), .ref (b + 71), .ref (b + 283), .ref (b + 284), .ref (b + 285), .ref (b + 287)])) := ⟨_, rfl⟩
  have hX : HX g X (b + 288) M19x H := by rw [eM]; exact hX
  have lo : ∀ q, q < b → M19x (q) = M0 q := fun q hq => by rw [eM]; exact (va_up_ne _ _ (by omega)).trans (lo q hq)
  have hb0 : M19x (b) = .inr (7, [.ref (b + 1), .ref (b + 36), .ref (b + 71), .ref (b + 283), .ref (b + 284), .ref (b + 285), .ref (b + 287)]) := by rw [eM]; exact va_up_self _ _ _
  have hnow : RepV g (fun _ => True) M19x (b + 1) id iniV := (hnow ).agr (fun q z1 z2 => by rw [eM]; exact va_up_ne _ _ (by omega))
  have htri : RepV g (fun _ => True) M19x (b + 36) id iniV := (htri ).agr (fun q z1 z2 => by rw [eM]; exact va_up_ne _ _ (by omega))
  have hhis : RepH g (fun _ => True) M19x (b + 71) id (fun _ => id) (fun _ => iniV) 0 := (hhis ).agr (fun q z1 z2 => by rw [eM]; exact va_up_ne _ _ (by omega))
  have hga : M19x (b + 283) = .inl (g.2 5, 2, .inr (.inr (.inr (.inr (fun _ => none))))) := by rw [eM]; exact (va_up_ne _ _ (by omega)).trans (hga )
  have hsv : M19x (b + 284) = .inl (g.2 2, 2, .inl (fun _ => 0)) := by rw [eM]; exact (va_up_ne _ _ (by omega)).trans (hsv )
  have hpd : M19x (b + 285) = .inr (3, [.ref (b + 286), .int 0]) := by rw [eM]; exact (va_up_ne _ _ (by omega)).trans (hpd )
  have hsg : M19x (b + 286) = .inl (g.2 0, 60, .inl (fun _ => 0)) := by rw [eM]; exact (va_up_ne _ _ (by omega)).trans (hsg )
  have hrd : M19x (b + 287) = .inr (2, [.ref (b + 285), .int 0, .int 0, .int 0, .int 0, .int 0]) := by rw [eM]; exact (va_up_ne _ _ (by omega)).trans (hrd )
  refine lv_iconst (v := nI 0) hx hb dX7_init_78 (by first | rfl | decide) ?_
  refine lv_istore_n (lv' := [(1, .int (nI 0)), (0, .ref (b))]) hx hb dX7_init_79 rfl hl (by decide) rfl (fun ls hl => ?_)
  have loop_80 : ∀ (z : Nat) (kq : Nat) (M : MM) (H : Heap) (locs : List Loc) (ls : Array Slot), 2 - kq < z → kq ≤ 2 → (∀ q, q < b → M (q) = M0 q) → (M (b) = .inr (7, [.ref (b + 1), .ref (b + 36), .ref (b + 71), .ref (b + 283), .ref (b + 284), .ref (b + 285), .ref (b + 287)])) → (RepV g (fun _ => True) M (b + 1) id iniV) → (RepV g (fun _ => True) M (b + 36) id iniV) → (RepH g (fun _ => True) M (b + 71) id (fun _ => id) (fun _ => iniV) 0) → (M (b + 283) = .inl (g.2 5, 2, .inr (.inr (.inr (.inr (fun i => if i < kq then some (b + 288 + 35 * i) else none)))))) → (M (b + 284) = .inl (g.2 2, 2, .inl (fun _ => 0))) → (M (b + 285) = .inr (3, [.ref (b + 286), .int 0])) → (M (b + 286) = .inl (g.2 0, 60, .inl (fun _ => 0))) → (M (b + 287) = .inr (2, [.ref (b + 285), .int 0, .int 0, .int 0, .int 0, .int 0])) → (∀ j, j < kq → RepV g (fun _ => True) M (b + 288 + 35 * j) id iniV) → HX g X (b + 288 + 35 * kq) M H → va_S (upX X) s.heap H locs → lv_has ls 2 [(1, .int (nI kq)), (0, .ref (b))] → W p l e (rmC 5 357 2420) s m aa below meth c H locs (287 + 35 * kq) (1952 + 234 * kq) Q (F0 m 80 ls []) := by
    intro z
    induction z with
    | zero => intro kq M H locs ls hz hk lo hb0 hnow htri hhis hga hsv hpd hsg hrd hV; exact absurd hz (Nat.not_lt_zero _)
    | succ z ih =>
    intro kq M H locs ls hz hk lo hb0 hnow htri hhis hga hsv hpd hsg hrd hV hX hS hl
    refine lv_iload_n hx hb dX7_init_80 rfl (lv_at hl 0 rfl) ?_
    refine lv_aload_n hx hb dX7_init_81 rfl (lv_at hl 1 rfl) ?_
    refine m_get (ci := 7) (C := RX7) (T := TX7) (N := 7) hx hb ht ui_X7 hown hK hX.2 (⟨by omega, by omega⟩ : dm X (b + 288 + 35 * kq) (b)) hb0 rfl 3 (by decide) (ht _ uw_278) rfl dX7_init_82 ?_
    refine m_alen hx hb hK hX.2 (⟨by omega, by omega⟩ : dm X (b + 288 + 35 * kq) (b + 283)) 5 hga rfl (v := nI 2) rfl dX7_init_85 ?_
    refine lv_icmp_ge (tgt := 108) hx hb dX7_init_86 (by decide) (fun c_9 => ?_) (fun c_9 => ?_)
    · obtain rfl : kq = 2 := Nat.le_antisymm hk (nI_le_of (by omega) (by omega) c_9)
      have hX := (hX.fin (a := b + 283) ⟨by omega, by omega⟩ hga (f' := fun i => some (b + 288 + 35 * i)) (fun i hi => if_pos hi))
      obtain ⟨Mf, eM⟩ : ∃ M1 : MM, M1 = va_up M (b + 283) (slE g b) := ⟨_, rfl⟩
      have hX : HX g X (b + 358) Mf H := by rw [eM]; exact hX
      have lo : ∀ q, q < b → Mf (q) = M0 q := fun q hq => by rw [eM]; exact (va_up_ne _ _ (by omega)).trans (lo q hq)
      have hb0 : Mf (b) = .inr (7, [.ref (b + 1), .ref (b + 36), .ref (b + 71), .ref (b + 283), .ref (b + 284), .ref (b + 285), .ref (b + 287)]) := by rw [eM]; exact (va_up_ne _ _ (by omega)).trans (hb0 )
      have hnow : RepV g (fun _ => True) Mf (b + 1) id iniV := (hnow ).agr (fun q z1 z2 => by rw [eM]; exact va_up_ne _ _ (by omega))
      have htri : RepV g (fun _ => True) Mf (b + 36) id iniV := (htri ).agr (fun q z1 z2 => by rw [eM]; exact va_up_ne _ _ (by omega))
      have hhis : RepH g (fun _ => True) Mf (b + 71) id (fun _ => id) (fun _ => iniV) 0 := (hhis ).agr (fun q z1 z2 => by rw [eM]; exact va_up_ne _ _ (by omega))
      have hsv : Mf (b + 284) = .inl (g.2 2, 2, .inl (fun _ => 0)) := by rw [eM]; exact (va_up_ne _ _ (by omega)).trans (hsv )
      have hpd : Mf (b + 285) = .inr (3, [.ref (b + 286), .int 0]) := by rw [eM]; exact (va_up_ne _ _ (by omega)).trans (hpd )
      have hsg : Mf (b + 286) = .inl (g.2 0, 60, .inl (fun _ => 0)) := by rw [eM]; exact (va_up_ne _ _ (by omega)).trans (hsg )
      have hrd : Mf (b + 287) = .inr (2, [.ref (b + 285), .int 0, .int 0, .int 0, .int 0, .int 0]) := by rw [eM]; exact (va_up_ne _ _ (by omega)).trans (hrd )
      have hV : ∀ j, j < 2 → RepV g (fun _ => True) Mf (b + 288 + 35 * j) id iniV := fun j hj => (hV j hj).agr (fun q z1 z2 => by rw [eM]; exact va_up_ne _ _ (by omega))
      have hga : Mf (b + 283) = slE g b := by rw [eM]; exact va_up_self _ _ _
      refine W.widen (k := 357) (n := 2420) (by omega) (by omega) ?_
      subst hQ
      exact x_vret hx hb hr hlk hK hX hS dX7_init_108 (⟨lo, trivial, trivial, trivial, hb0, hga, hsv, hnow, ⟨_, _, htri⟩, ⟨_, _, hhis⟩, fun i hi => ⟨_, hV i hi⟩, fun _ => 0, trivial, trivial, trivial, hpd, hsg, hrd⟩)
    · have hk6 : kq < 2 := nI_lt_of (by omega) (by omega) c_9
      refine lv_aload_n hx hb dX7_init_89 rfl (lv_at hl 1 rfl) ?_
      refine m_get (ci := 7) (C := RX7) (T := TX7) (N := 7) hx hb ht ui_X7 hown hK hX.2 (⟨by omega, by omega⟩ : dm X (b + 288 + 35 * kq) (b)) hb0 rfl 3 (by decide) (ht _ uw_278) rfl dX7_init_90 ?_
      refine lv_iload_n hx hb dX7_init_93 rfl (lv_at hl 0 rfl) ?_
      refine x_new (ci := 6) (fs := [.int 0, .int 0, .int 0, .int 0, .null, .null]) (C := RX6) (T := TX6) (n := 6) hx hb ht ui_X6 tyX6 tyX6_ok hown (ht _ uw_52) (ht _ uw_53) (ht _ uw_35) hK hX hS rfl (fun j hj => by rcases (by omega : j = 0 ∨ j = 1 ∨ j = 2 ∨ j = 3 ∨ j = 4 ∨ j = 5) with rfl | rfl | rfl | rfl | rfl | rfl <;> rfl) (show _ ≤ 357 by omega) (show _ ≤ 2420 by omega) dX7_init_94 (fun H hX hS => ?_)
      obtain ⟨M20x, eM⟩ : ∃ M1 : MM, M1 = va_up M (b + 288 + 35 * kq) (.inr (6, [.int 0, .int 0, .int 0, .int 0, .null, .null])) := ⟨_, rfl⟩
      have hX : HX g X (b + 288 + 35 * kq + 1) M20x H := by rw [eM]; exact hX
      have lo : ∀ q, q < b → M20x (q) = M0 q := fun q hq => by rw [eM]; exact (va_up_ne _ _ (by omega)).trans (lo q hq)
      have hb0 : M20x (b) = .inr (7, [.ref (b + 1), .ref (b + 36), .ref (b + 71), .ref (b + 283), .ref (b + 284), .ref (b + 285), .ref (b + 287)]) := by rw [eM]; exact (va_up_ne _ _ (by omega)).trans (hb0 )
      have hnow : RepV g (fun _ => True) M20x (b + 1) id iniV := (hnow ).agr (fun q z1 z2 => by rw [eM]; exact va_up_ne _ _ (by omega))
      have htri : RepV g (fun _ => True) M20x (b + 36) id iniV := (htri ).agr (fun q z1 z2 => by rw [eM]; exact va_up_ne _ _ (by omega))
      have hhis : RepH g (fun _ => True) M20x (b + 71) id (fun _ => id) (fun _ => iniV) 0 := (hhis ).agr (fun q z1 z2 => by rw [eM]; exact va_up_ne _ _ (by omega))
      have hga : M20x (b + 283) = .inl (g.2 5, 2, .inr (.inr (.inr (.inr (fun i => if i < kq then some (b + 288 + 35 * i) else none))))) := by rw [eM]; exact (va_up_ne _ _ (by omega)).trans (hga )
      have hsv : M20x (b + 284) = .inl (g.2 2, 2, .inl (fun _ => 0)) := by rw [eM]; exact (va_up_ne _ _ (by omega)).trans (hsv )
      have hpd : M20x (b + 285) = .inr (3, [.ref (b + 286), .int 0]) := by rw [eM]; exact (va_up_ne _ _ (by omega)).trans (hpd )
      have hsg : M20x (b + 286) = .inl (g.2 0, 60, .inl (fun _ => 0)) := by rw [eM]; exact (va_up_ne _ _ (by omega)).trans (hsg )
      have hrd : M20x (b + 287) = .inr (2, [.ref (b + 285), .int 0, .int 0, .int 0, .int 0, .int 0]) := by rw [eM]; exact (va_up_ne _ _ (by omega)).trans (hrd )
      have hV : ∀ j, j < kq → RepV g (fun _ => True) M20x (b + 288 + 35 * j) id iniV := fun j hj => (hV j hj).agr (fun q z1 z2 => by rw [eM]; exact va_up_ne _ _ (by omega))
      have hn9 : M20x (b + 288 + 35 * kq) = .inr (6, [.int 0, .int 0, .int 0, .int 0, .null, .null]) := by rw [eM]; exact va_up_self _ _ _
      refine lv_dup hx hb dX7_init_97 rfl ?_
      refine x_callI (As := []) (rest := [.ref (b + 288 + 35 * kq), .int (nI kq), .ref (b + 283)]) ⟨hx, hb, hml, hown, ht⟩ (k_X6_init l g X (b + 288 + 35 * kq) M20x hn9 (by omega)) (cwI 0 ht (gUI uw_56) rfl rfl rfl (ht _ uw_35) (ht _ uw_54) (ht _ uw_55) rfl (by decide +kernel) ⟨by decide, by decide⟩) hK hNW hX hS rfl hl.1 rfl (Nat.le_of_ble_eq_true rfl) dX7_init_98 ⟨show _ ≤ 357 by omega, show _ ≤ 2420 by omega⟩ (fun M21x H locs hp hX hS => ?_)
      obtain ⟨lo1, hv9⟩ := hp
      have lo : ∀ q, q < b → M21x (q) = M0 q := fun q hq => (lo1 _ (by omega)).trans (lo q hq)
      have hb0 : M21x (b) = .inr (7, [.ref (b + 1), .ref (b + 36), .ref (b + 71), .ref (b + 283), .ref (b + 284), .ref (b + 285), .ref (b + 287)]) := (lo1 _ (by omega)).trans (hb0 )
      have hnow : RepV g (fun _ => True) M21x (b + 1) id iniV := (hnow ).agr (fun q z1 z2 => lo1 q (by omega))
      have htri : RepV g (fun _ => True) M21x (b + 36) id iniV := (htri ).agr (fun q z1 z2 => lo1 q (by omega))
      have hhis : RepH g (fun _ => True) M21x (b + 71) id (fun _ => id) (fun _ => iniV) 0 := (hhis ).agr (fun q z1 z2 => lo1 q (by omega))
      have hga : M21x (b + 283) = .inl (g.2 5, 2, .inr (.inr (.inr (.inr (fun i => if i < kq then some (b + 288 + 35 * i) else none))))) := (lo1 _ (by omega)).trans (hga )
      have hsv : M21x (b + 284) = .inl (g.2 2, 2, .inl (fun _ => 0)) := (lo1 _ (by omega)).trans (hsv )
      have hpd : M21x (b + 285) = .inr (3, [.ref (b + 286), .int 0]) := (lo1 _ (by omega)).trans (hpd )
      have hsg : M21x (b + 286) = .inl (g.2 0, 60, .inl (fun _ => 0)) := (lo1 _ (by omega)).trans (hsg )
      have hrd : M21x (b + 287) = .inr (2, [.ref (b + 285), .int 0, .int 0, .int 0, .int 0, .int 0]) := (lo1 _ (by omega)).trans (hrd )
      have hV : ∀ j, j < kq → RepV g (fun _ => True) M21x (b + 288 + 35 * j) id iniV := fun j hj => (hV j hj).agr (fun q z1 z2 => lo1 q (by omega))
      have hv8 : RepV g (fun _ => True) M21x (b + 288 + 35 * kq) id iniV := hv9
      have hX : HX g X (b + 288 + 35 * kq + 35) M21x H := hX
      obtain ⟨hvW, hvL⟩ := rv_obj hv8
      refine x_aast (r := (RX6, TX6, 6)) hx hb hK hX hS ⟨by omega, by omega⟩ 5 6 hga rfl ⟨by omega, by omega⟩ hvW rfl hk6 (by omega) dX7_init_101 (fun H locs hX hS => ?_)
      obtain ⟨M22x, eM⟩ : ∃ M1 : MM, M1 = va_up M21x (b + 283) (.inl (g.2 5, 2, .inr (.inr (.inr (.inr (va_up (fun i => if i < kq then some (b + 288 + 35 * i) else none) kq (some (b + 288 + 35 * kq)))))))) := ⟨_, rfl⟩
      have hX : HX g X (b + 288 + 35 * kq + 35) M22x H := by rw [eM]; exact hX
      have lo : ∀ q, q < b → M22x (q) = M0 q := fun q hq => by rw [eM]; exact (va_up_ne _ _ (by omega)).trans (lo q hq)
      have hb0 : M22x (b) = .inr (7, [.ref (b + 1), .ref (b + 36), .ref (b + 71), .ref (b + 283), .ref (b + 284), .ref (b + 285), .ref (b + 287)]) := by rw [eM]; exact (va_up_ne _ _ (by omega)).trans (hb0 )
      have hnow : RepV g (fun _ => True) M22x (b + 1) id iniV := (hnow ).agr (fun q z1 z2 => by rw [eM]; exact va_up_ne _ _ (by omega))
      have htri : RepV g (fun _ => True) M22x (b + 36) id iniV := (htri ).agr (fun q z1 z2 => by rw [eM]; exact va_up_ne _ _ (by omega))
      have hhis : RepH g (fun _ => True) M22x (b + 71) id (fun _ => id) (fun _ => iniV) 0 := (hhis ).agr (fun q z1 z2 => by rw [eM]; exact va_up_ne _ _ (by omega))
      have hga : M22x (b + 283) = .inl (g.2 5, 2, .inr (.inr (.inr (.inr (va_up (fun i => if i < kq then some (b + 288 + 35 * i) else none) kq (some (b + 288 + 35 * kq))))))) := by rw [eM]; exact va_up_self _ _ _
      have hsv : M22x (b + 284) = .inl (g.2 2, 2, .inl (fun _ => 0)) := by rw [eM]; exact (va_up_ne _ _ (by omega)).trans (hsv )
      have hpd : M22x (b + 285) = .inr (3, [.ref (b + 286), .int 0]) := by rw [eM]; exact (va_up_ne _ _ (by omega)).trans (hpd )
      have hsg : M22x (b + 286) = .inl (g.2 0, 60, .inl (fun _ => 0)) := by rw [eM]; exact (va_up_ne _ _ (by omega)).trans (hsg )
      have hrd : M22x (b + 287) = .inr (2, [.ref (b + 285), .int 0, .int 0, .int 0, .int 0, .int 0]) := by rw [eM]; exact (va_up_ne _ _ (by omega)).trans (hrd )
      have hV : ∀ j, j < kq → RepV g (fun _ => True) M22x (b + 288 + 35 * j) id iniV := fun j hj => (hV j hj).agr (fun q z1 z2 => by rw [eM]; exact va_up_ne _ _ (by omega))
      have hv8 : RepV g (fun _ => True) M22x (b + 288 + 35 * kq) id iniV := (hv8 ).agr (fun q z1 z2 => by rw [eM]; exact va_up_ne _ _ (by omega))
      refine lv_iinc (v := nI (kq + 1)) (lv' := [(1, .int (nI (kq + 1))), (0, .ref (b))]) hx hb dX7_init_102 hl (k := 0) rfl (nI_1 _) (by decide) rfl (fun ls hl => ?_)
      refine lv_goto (tgt := 80) hx hb dX7_init_105 (by decide) ?_
      refine W.widen (k := 287 + 35 * (kq + 1)) (n := 1952 + 234 * (kq + 1)) (by omega) (by omega) ?_
      exact ih (kq + 1) _ _ _ _ (by omega) (by omega) lo hb0 hnow htri hhis (arrE_up (F := fun i => b + 288 + 35 * i) hga) hsv hpd hsg hrd (fun j hj => by
              by_cases hik : j = kq
              · rw [hik]; exact hv8
              · exact hV j (by omega)) (by rw [show b + 288 + 35 * (kq + 1) = b + 288 + 35 * kq + 35 by omega]; exact hX) hS hl
  exact loop_80 3 0 _ _ _ _ (by omega) (by omega) lo hb0 hnow htri hhis (arrE_0 (fun i => b + 288 + 35 * i) hga) hsv hpd hsg hrd (fun j hj => absurd hj (Nat.not_lt_zero j)) (by exact hX) hS hl

