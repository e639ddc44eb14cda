theorem dL_low_0 : decode cL_low 0 = .ok (.iload_n 0, 1) := by decide +kernel
theorem dL_low_1 : decode cL_low 1 = .ok (.ldc 7, 2) := by decide +kernel
theorem dL_low_3 : decode cL_low 3 = .ok (.iand, 1) := by decide +kernel
theorem dL_low_4 : decode cL_low 4 = .ok (.iload_n 1, 1) := by decide +kernel
theorem dL_low_5 : decode cL_low 5 = .ok (.irem, 1) := by decide +kernel
theorem dL_low_6 : decode cL_low 6 = .ok (.ireturn, 1) := by decide +kernel
theorem dL_cell_0 : decode cL_cell 0 = .ok (.iload_n 1, 1) := by decide +kernel
theorem dL_cell_1 : decode cL_cell 1 = .ok (.aload_n 0, 1) := by decide +kernel
theorem dL_cell_2 : decode cL_cell 2 = .ok (.arraylength, 1) := by decide +kernel
theorem dL_cell_3 : decode cL_cell 3 = .ok (.if_icmp .ge 9, 3) := by decide +kernel
theorem dL_cell_6 : decode cL_cell 6 = .ok (.aload_n 0, 1) := by decide +kernel
theorem dL_cell_7 : decode cL_cell 7 = .ok (.iload_n 1, 1) := by decide +kernel
theorem dL_cell_8 : decode cL_cell 8 = .ok (.iaload, 1) := by decide +kernel
theorem dL_cell_9 : decode cL_cell 9 = .ok (.goto 15, 3) := by decide +kernel
theorem dL_cell_12 : decode cL_cell 12 = .ok (.sipush 7919, 3) := by decide +kernel
theorem dL_cell_15 : decode cL_cell 15 = .ok (.iload_n 1, 1) := by decide +kernel
theorem dL_cell_16 : decode cL_cell 16 = .ok (.iconst 3, 1) := by decide +kernel
theorem dL_cell_17 : decode cL_cell 17 = .ok (.iadd, 1) := by decide +kernel
theorem dL_cell_18 : decode cL_cell 18 = .ok (.imul, 1) := by decide +kernel
theorem dL_cell_19 : decode cL_cell 19 = .ok (.iload_n 1, 1) := by decide +kernel
theorem dL_cell_20 : decode cL_cell 20 = .ok (.bipush 11, 2) := by decide +kernel
theorem dL_cell_22 : decode cL_cell 22 = .ok (.iadd, 1) := by decide +kernel
theorem dL_cell_23 : decode cL_cell 23 = .ok (.imul, 1) := by decide +kernel
theorem dL_cell_24 : decode cL_cell 24 = .ok (.ireturn, 1) := by decide +kernel
def loC (x y : Int32) : Int32 := (x &&& 2147483647) - (x &&& 2147483647) / y * y
theorem and_nn (x : Int32) : 0 ≤ (x &&& 2147483647).toInt := by
  have h : (x &&& 2147483647).toBitVec = x.toBitVec &&& 2147483647#32 := rfl
  show 0 ≤ (x &&& 2147483647).toBitVec.toInt
  rw [h]
  have h2 : (x.toBitVec &&& 2147483647#32).toNat < 2147483648 := by
    rw [BitVec.toNat_and]
    exact Nat.lt_of_le_of_lt Nat.and_le_right (by decide)
  rw [BitVec.toInt_eq_toNat_of_lt (by omega)]
  omega
theorem lo_in (x : Int32) {m : Nat} (h1 : 1 ≤ m) (h2 : m ≤ 1000) : ∃ k, k < m ∧ loC x (nI m) = nI k := by
  have em : (nI m).toInt = m := nI_ti (by omega)
  have t0 := and_nn x
  have tl := Int32.toInt_lt (x &&& 2147483647)
  obtain ⟨t, ht⟩ : ∃ t, t = x &&& 2147483647 := ⟨_, rfl⟩
  unfold loC
  rw [← ht] at t0 tl ⊢
  have q1 : t.toInt % (m : Int) + t.toInt / (m : Int) * (m : Int) = t.toInt := Int.emod_add_ediv_mul _ _
  have q2 : 0 ≤ t.toInt % (m : Int) := Int.emod_nonneg _ (by omega)
  have q3 : t.toInt % (m : Int) < (m : Int) := Int.emod_lt_of_pos _ (by omega)
  have q4 : 0 ≤ t.toInt / (m : Int) := Int.ediv_nonneg t0 (by omega)
  have q5 : 0 ≤ t.toInt / (m : Int) * (m : Int) := Int.mul_nonneg q4 (by omega)
  have e1 : (t / nI m).toInt = t.toInt / (m : Int) := by rw [lg_idiv_nonneg t0 (by rw [em]; omega), em]
  have e2 : (t / nI m * nI m).toInt = t.toInt / (m : Int) * (m : Int) := by
    have := ti_mul (x := t / nI m) (y := nI m) (by rw [e1, em]; omega) (by rw [e1, em]; omega)
    rw [this, e1, em]
  have e3 : (t - t / nI m * nI m).toInt = t.toInt % (m : Int) := by
    have := ti_sub (x := t) (y := t / nI m * nI m) (by rw [e2]; omega) (by rw [e2]; omega)
    rw [this, e2]; omega
  refine ⟨(t.toInt % (m : Int)).toNat, by omega, ti_inj ?_⟩
  rw [e3, nI_ti (by omega)]
  omega
set_option maxHeartbeats 4000000 in
set_option maxRecDepth 100000 in
/-- what is left over -/
theorem k_L_low (l : Launch) (g : GG) (A : Nat → Prop) (M0 : MM) (x y : Int32) (hy : ¬ y = 0) : Met l yL_low (Uw yL_low cL_low 2 (Option.some ClassFile.FieldType.int)) (rmD 0) (PreM [.int (x), .int (y)] g A M0) (PosI (fun r M1 => r = loC x y ∧ M1 = M0) g A) 0 0 A := by
  refine mk_Met (own := RL) rfl rfl (by decide) (Nat.le_of_ble_eq_true rfl) ?_
  intro p e s m below meth c ls aa Q haa hQ hx hb hr hlk hml hown hts hK hM hS hl hnm
  obtain ⟨M, hMM⟩ : ∃ M, M = M0 := ⟨_, rfl⟩
  rw [← hMM] at hM
  have ht : ∀ w ∈ lw_good, w.before _ s = true := fun w h => hts w (List.mem_cons_of_mem _ h)
  have hl : lv_has ls 2 [(0, .int (x)), (1, .int (y))] := hl
  refine lv_iload_n hx hb dL_low_0 rfl (lv_at hl 0 rfl) ?_
  refine lv_ldc (v := (2147483647)) hx hb hown (ht _ uw_2007) dL_low_1 ?_
  refine lv_iand hx hb dL_low_3 ?_
  refine lv_iload_n hx hb dL_low_4 rfl (lv_at hl 1 rfl) ?_
  refine lv_irem hx hb dL_low_5 (hy) ?_
  subst hQ
  exact m_zret hx hb hr (rfl) hlk hK hM hS dL_low_6 (⟨rfl, hMM⟩)
/-- the start of a method that reads the script -/
abbrev PreC (vs : List Value) (g : GG) (A : Nat → Prop) (M : MM) (b L : Nat) (xs : Nat → Int32) : Array Value → State → Prop := va_Pc vs (fun U => HD g A M U.heap ∧ KK g U ∧ va_X b L xs U U.heap ∧ b < U.heap.size)
theorem preC_blind {vs : List Value} {g : GG} {A : Nat → Prop} {M : MM} {b L : Nat} {xs : Nat → Int32} : FrameBlind (PreC vs g A M b L xs) := fun a U f mk q => ⟨q.1, q.2.1, KK.moved (u := U) (U := U.calling f mk a) (Vm.Alike.refl U.vm) q.2.2.1, q.2.2.2.1.moved (u := U) (U := U.calling f mk a) (Vm.Alike.refl U.vm), q.2.2.2.2⟩
section
variable {p : Program} {l : Launch} {e : Env} {R : Room} {s : State} {m : MethodId} {args : Array Value} {below : List Frame} {meth : Method} {c : Code} {H H0 : Heap} {locs : List Loc} {cells slots : Nat} {Q : State → Prop} {cc : ByteArray} {pc : Nat} {ls : Array Slot} {rest st0 : List Value} {g : GG} {A : Nat → Prop} {M : MM} {own : String} {index : Nat} {Ts : List Cond} {nL : Nat} {y : MethodName} {ws : List Cond} {rm : Room} {As : List Value} {bytes : ByteArray} {maxL : Nat} {ret : Option FieldType} {n b L : Nat} {xs : Nat → Int32}
theorem m_callC {post : Int32 → MM → Prop} (S : CallFix p m c cc nL s args Ts own) (hMet : Met l y ws rm (PreC As g A M b L xs) (PosI post g A) 0 0 A) (cw : CallB R s args own index y bytes maxL ret ws rm 0 0 n ∧ (Cond.static y).before args s = true) (hK : KK g s) (hM : HD g A M H) (hS : va_S A s.heap H locs) (hsc : va_X b L xs s s.heap) (hbl : b < s.heap.size) (hbA : ¬ A b) (hn : As.length = n) (hsz : ls.size = nL) (hst : st0 = As.reverse ++ rest) (hW : (rest.map fun v => v.category).sum ≤ 8) (hdg : decode cc pc = .ok (.invokestatic index, 3)) (hf : cells ≤ R.cells ∧ slots ≤ R.slots)
    (kk : ∀ (r : Int32) (M1 : MM) (H1 : Heap) (locs1 : List Loc), post r M1 → HD g A M1 H1 → va_S A s.heap H1 locs1 → W p l e R s m args below meth c H1 locs1 cells slots Q (F0 m (pc + 3) ls (.int r :: rest))) : W p l e R s m args below meth c H locs cells slots Q (F0 m pc ls st0) :=
  va_calli (va_runS (As := As) (rest := rest) S hMet cw ⟨preC_blind, fun U hU hWU => ⟨rfl, by rw [hU]; exact hM, KK.moved hWU.alike hK, by rw [hU]; exact (hsc.kept (hS.2.1 b hbl hbA)).moved hWU.alike, by rw [hU]; exact Nat.lt_of_lt_of_le hbl hS.1⟩⟩ rfl hn hsz hst (lv_room (pc := pc) (ls := ls) (rest := st0) (m := m) hW) hdg hf) hS (fun _ _ h => h) (fun _ h => h)
    (fun r u t H1 locs1 ht _ hp hB _ _ hS1 => kk r u H1 locs1 hp (by rw [← ht]; exact hB.1) hS1)
end
set_option maxHeartbeats 4000000 in
set_option maxRecDepth 100000 in
/-- a number of the script, or one made of its place -/
theorem k_L_cell (l : Launch) (g : GG) (A : Nat → Prop) (M0 : MM) (b L : Nat) (xs : Nat → Int32) (hbA : ¬ A b) (hL : L ≤ 260) (k : Nat) (hk : k ≤ 1000) : Met l yL_cell (Uw yL_cell cL_cell 2 (Option.some ClassFile.FieldType.int)) (rmD 0) (PreC [.ref b, .int (nI k)] g A M0 b L xs) (PosI (fun r M1 => M1 = M0) g A) 0 0 A := by
  refine Met.ofW (cc := cL_cell) (maxL := 2) (ret := Option.some ClassFile.FieldType.int) (by decide) rfl ?_
  intro p e s m args below meth c s₁ B hml hv
  obtain ⟨rfl, hM, hK, hsc, hbl⟩ := hv
  have hl := lv_entry ([.ref b, .int (nI k)]) (n := 2) (Nat.le_of_ble_eq_true rfl)
  rw [lg_entry_eq]
  have hx := B.exec
  have hb := B.bytes
  have hr := B.returns
  have hlk := B.notSynchronized
  have hS : va_S A s.heap s.heap [] := va_S.rf
  generalize (lg_sl ([.ref b, .int (nI k)]) ++ List.replicate (2 - (lg_sl ([.ref b, .int (nI k)])).length) Slot.unset).toArray = ls at hl ⊢
  have hl : lv_has ls 2 [(0, .ref b), (1, .int (nI k))] := hl
  refine lv_iload_n hx hb dL_cell_0 rfl (lv_at hl 1 rfl) ?_
  refine lv_aload_n hx hb dL_cell_1 rfl (lv_at hl 0 rfl) ?_
  refine va_slen hx hb hsc hbl hbA hS dL_cell_2 ?_
  refine lv_icmp_ge (tgt := 12) hx hb dL_cell_3 (by decide) (fun c_3 => ?_) (fun c_3 => ?_)
  · refine lv_sipush (v := 7919) hx hb dL_cell_12 (by first | rfl | decide) ?_
    refine lv_iload_n hx hb dL_cell_15 rfl (lv_at hl 1 rfl) ?_
    refine lv_iconst (v := 3) hx hb dL_cell_16 (by first | rfl | decide) ?_
    refine lv_iadd hx hb dL_cell_17 ?_
    refine lv_imul hx hb dL_cell_18 ?_
    refine lv_iload_n hx hb dL_cell_19 rfl (lv_at hl 1 rfl) ?_
    refine lv_bipush (v := 11) hx hb dL_cell_20 (by first | rfl | decide) ?_
    refine lv_iadd hx hb dL_cell_22 ?_
    refine lv_imul hx hb dL_cell_23 ?_
    exact m_iret hx hb hr hlk hK hM hS dL_cell_24 rfl
  · refine lv_aload_n hx hb dL_cell_6 rfl (lv_at hl 0 rfl) ?_
    refine lv_iload_n hx hb dL_cell_7 rfl (lv_at hl 1 rfl) ?_
    refine va_sld hx hb hsc hbl hbA hS (vp_in_nI (nI_lt_of (by omega) (by omega) c_3) (by omega)) dL_cell_8 ?_
    refine lv_goto (tgt := 24) hx hb dL_cell_9 (by decide) ?_
    exact m_iret hx hb hr hlk hK hM hS dL_cell_24 rfl
