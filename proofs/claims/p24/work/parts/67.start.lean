set_option maxHeartbeats 4000000 in
theorem arr_ok {s : State} {args : Array Value} {ty : FieldType} (h : (Cond.arrayClass ty).before args s = true) : ∃ cA, s.vm.findClass ("[" ++ ty.toString) = some cA ∧ ArrOfT s cA ty := by
  obtain ⟨cA, kA, comp, h1, h2, h3⟩ := Cond.arrayClass_spec h
  exact ⟨cA, h1, fun n z => ⟨fun k q => (by cases q), kA, h2, comp, h3⟩⟩
theorem arr_oo {s : State} {C : String} (h : va_AO C s) : ∃ cA, ArrOfT s cA (.object C) ∧ va_RA s cA (.object C) := by
  obtain ⟨comp, cA, kA, h1, h2, h3, h4, h5⟩ := Cond.arrayOver_spec h
  exact ⟨cA, fun n z => ⟨fun k q => (by cases q), kA, h3, comp, h4⟩, kA, comp, h3, h4, h1, h5⟩
set_option maxHeartbeats 4000000 in
set_option maxRecDepth 100000 in
theorem whole_start {p : Program} {e : Env} {s : State} {m : MethodId} {below : List Frame} {meth : Method} {c : Code} (l : Launch) (hflags : l.flags = flags0) {b L : Nat} {xs : Nat → Int32} (hL : L ≤ 260) (C0 : lw_At p s m meth c b L xs) : W p l e room_1 s m #[Value.ref b] below meth c s.heap [] 0 0 (lw_Z below #[Value.ref b] s) (entryFrame m ([Value.ref b] : List Value).toArray 4) := by
  obtain ⟨hx, hb, hr, hml, hown, hts, hsc, hbl, hlk, hgv⟩ := id C0
  have hown : s.vm.findClass RL = some m.cls := hown
  have ht : ∀ w ∈ lw_good, w.before #[Value.ref b] s = true := fun w h => hts w (good_tbl w h)
  have hNW : NW s := ⟨va_Nw.of rfl (hts _ uw_69), va_Nw.of rfl (hts _ uw_159), va_Nw.of rfl (hts _ uw_231), va_AO.of (hts _ uw_59), va_AO.of (hts _ uw_61), va_AO.of (hts _ uw_219)⟩
  obtain ⟨c0, i0, n0⟩ := u_known (C := RX0) (T := TX0) (N := 9) ht ui_X0 (ht _ uw_62)
  obtain ⟨c1, i1, n1⟩ := u_known (C := RX1) (T := TX1) (N := 2) ht ui_X1 (ht _ uw_213)
  obtain ⟨c2, i2, n2⟩ := u_known (C := RX2) (T := TX2) (N := 6) ht ui_X2 (ht _ uw_247)
  obtain ⟨c3, i3, n3⟩ := u_known (C := RX3) (T := TX3) (N := 2) ht ui_X3 (ht _ uw_230)
  obtain ⟨c4, i4, n4⟩ := u_known (C := RX4) (T := TX4) (N := 8) ht ui_X4 (ht _ uw_68)
  obtain ⟨c5, i5, n5⟩ := u_known (C := RX5) (T := TX5) (N := 5) ht ui_X5 (ht _ uw_158)
  obtain ⟨c6, i6, n6⟩ := u_known (C := RX6) (T := TX6) (N := 6) ht ui_X6 (ht _ uw_53)
  obtain ⟨c7, i7, n7⟩ := u_known (C := RX7) (T := TX7) (N := 7) ht ui_X7 (ht _ uw_45)
  obtain ⟨a0, b0, d0⟩ := arr_ok (ht _ uw_245)
  obtain ⟨a1, b1, d1⟩ := arr_ok (ht _ uw_244)
  obtain ⟨a2, b2, d2⟩ := arr_ok (ht _ uw_244)
  obtain ⟨a3, d3, b3⟩ := arr_oo hNW.2.2.2.1
  obtain ⟨a4, d4, b4⟩ := arr_oo hNW.2.2.2.2.1
  obtain ⟨a5, d5, b5⟩ := arr_oo hNW.2.2.2.2.2
  obtain ⟨g, hK⟩ : ∃ g : GG, KK g s := by
    refine ⟨((fun k => if k = 0 then c0 else if k = 1 then c1 else if k = 2 then c2 else if k = 3 then c3 else if k = 4 then c4 else if k = 5 then c5 else if k = 6 then c6 else c7, fun k => if k = 0 then i0 else if k = 1 then i1 else if k = 2 then i2 else if k = 3 then i3 else if k = 4 then i4 else if k = 5 then i5 else if k = 6 then i6 else i7), fun k => if k = 0 then a0 else if k = 1 then a1 else if k = 2 then a2 else if k = 3 then a3 else if k = 4 then a4 else a5), ?_, ?_⟩
    · intro k q hq
      match k, hq with
      | 0, hq => cases hq; exact n0
      | 1, hq => cases hq; exact n1
      | 2, hq => cases hq; exact n2
      | 3, hq => cases hq; exact n3
      | 4, hq => cases hq; exact n4
      | 5, hq => cases hq; exact n5
      | 6, hq => cases hq; exact n6
      | 7, hq => cases hq; exact n7
      | k + 8, hq => simp at hq
    · intro k q hq
      match k, hq with
      | 0, hq => cases hq; exact ⟨d0, b0⟩
      | 1, hq => cases hq; exact ⟨d1, b1⟩
      | 2, hq => cases hq; exact ⟨d2, b2⟩
      | 3, hq => cases hq; exact ⟨d3, b3⟩
      | 4, hq => cases hq; exact ⟨d4, b4⟩
      | 5, hq => cases hq; exact ⟨d5, b5⟩
      | k + 6, hq => simp at hq
  obtain ⟨X, hsz⟩ : ∃ X, X = s.heap.size := ⟨_, rfl⟩
  have hS : va_S (upX X) s.heap s.heap [] := va_S.rf
  obtain ⟨M, hMM⟩ : ∃ M : MM, M = fun _ => .inr (0, []) := ⟨_, rfl⟩
  have hX : HX g X X M s.heap := ⟨hsz.symm, fun q hq => by have h1 := hq.1; have h2 := hq.2; omega⟩
  have hl := lv_entry ([.ref b]) (n := 4) (Nat.le_of_ble_eq_true rfl)
  rw [lg_entry_eq]
  generalize (lg_sl ([.ref b]) ++ List.replicate (4 - (lg_sl ([.ref b])).length) Slot.unset).toArray = ls at hl ⊢
  have hl : lv_has ls 4 [(0, .ref b)] := hl
  refine x_new (ci := 7) (fs := [.null, .null, .null, .null, .null, .null, .null]) (C := RX7) (T := TX7) (n := 7) hx hb ht ui_X7 tyX7 tyX7_ok hown (ht _ uw_2000) (ht _ uw_45) (ht _ uw_34) hK hX hS rfl (fun j hj => by rcases (by omega : j = 0 ∨ j = 1 ∨ j = 2 ∨ j = 3 ∨ j = 4 ∨ j = 5 ∨ j = 6) with rfl | rfl | rfl | rfl | rfl | rfl | rfl <;> rfl) (Nat.le_of_ble_eq_true rfl) (Nat.le_of_ble_eq_true rfl) dL_law_0 (fun H hX hS => ?_)
  obtain ⟨M1x, eM⟩ : ∃ M1 : MM, M1 = va_up M X (.inr (7, [.null, .null, .null, .null, .null, .null, .null])) := ⟨_, rfl⟩
  have hX : HX g X (X + 1) M1x H := by rw [eM]; exact hX
  have hb0 : M1x X = .inr (7, [.null, .null, .null, .null, .null, .null, .null]) := by rw [eM]; exact va_up_self _ _ _
  refine lv_dup hx hb dL_law_3 rfl ?_
  refine x_callI (As := []) (rest := [.ref X]) ⟨hx, hb, hml, hown, ht⟩ (k_X7_init l g X X M1x hb0 (Nat.le_refl X)) (cwI 0 ht (gUI uw_48) rfl rfl rfl (ht _ uw_34) (ht _ uw_530) (ht _ uw_47) rfl (by decide +kernel) ⟨Nat.le_of_ble_eq_true rfl, Nat.le_of_ble_eq_true rfl⟩) hK hNW hX hS rfl hl.1 rfl (Nat.le_of_ble_eq_true rfl) dL_law_4 ⟨Nat.le_of_ble_eq_true rfl, Nat.le_of_ble_eq_true rfl⟩ (fun M2x H locs hp hX hS => ?_)
  obtain ⟨-, hRX⟩ := hp
  refine lv_astore_n (lv' := [(1, .ref X), (0, .ref b)]) hx hb dL_law_7 rfl hl (by decide) rfl (fun ls hl => ?_)
  refine lv_iconst (v := nI 0) hx hb dL_law_8 (by first | rfl | decide) ?_
  refine lv_istore_n (lv' := [(2, .int (nI 0)), (1, .ref X), (0, .ref b)]) hx hb dL_law_9 rfl hl (by decide) rfl (fun ls hl => ?_)
  refine va_forget (fun q hq => hsz ▸ hS.2.2 q hq) ?_
  refine W.widen (k := 358) (n := 2427) (Nat.le_of_ble_eq_true rfl) (Nat.le_of_ble_eq_true rfl) ?_
  have hS2 : va_S (dm X (X + 358)) s.heap H [] := ⟨hS.1, fun q h1 h2 => hS.2.1 q h1 (fun z => by have z : X ≤ q := z; omega), fun q hq => by cases hq⟩
  have hRXd := hRX.dom (A' := dm X (X + 358)) (fun q z1 z2 => ⟨z1, by omega⟩)
  exact law_loop l hL C0 g hK X hsz (dm X (X + 358)) (fun q hq => hq.1) 53 0 iniC M2x H [] ls (by omega) (by omega) ⟨id, hRXd, FrX.rf⟩ ini_zSI hX.2 hS2 hl
