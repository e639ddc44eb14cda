/-! THE HISTORY: its object h, the array h+1 of its states (permuted by ρ), six valleys from h+2 on -/
abbrev hiE (h : Nat) (sz : Int32) : va_E := .inr (1, [.ref (h + 1), .int sz])
abbrev haE (g : GG) (h : Nat) (ρ : Nat → Nat) : va_E := .inl (g.2 5, 6, .inr (.inr (.inr (.inr (fun j => some (h + 2 + 35 * ρ j))))))
def RepH (g : GG) (A : Nat → Prop) (M : MM) (h : Nat) (ρ : Nat → Nat) (πs : Nat → Nat → Nat) (vs : Nat → VV) (sz : Int32) : Prop :=
  A h ∧ A (h + 1) ∧ Perm 6 ρ ∧ M h = hiE h sz ∧ M (h + 1) = haE g h ρ ∧ ∀ i, i < 6 → RepV g A M (h + 2 + 35 * ρ i) (πs i) (vs i)
def FrH (h : Nat) (M0 M : MM) : Prop := ∀ q, ¬ (h ≤ q ∧ q < h + 212) → M q = M0 q
theorem FrH.rf {h : Nat} {M : MM} : FrH h M M := fun _ _ => rfl
theorem FrH.tr {h : Nat} {M0 M1 M2 : MM} (h1 : FrH h M0 M1) (h2 : FrH h M1 M2) : FrH h M0 M2 := fun q z => (h2 q z).trans (h1 q z)
theorem FrH.up {h : Nat} {M0 M : MM} (hF : FrH h M0 M) {q : Nat} {e : va_E} (h1 : h ≤ q) (h2 : q < h + 212) : FrH h M0 (va_up M q e) := fun z w => by
  rw [va_up_ne _ _ (by omega)]
  exact hF z w
def FrHB (h b0 : Nat) (M0 M : MM) : Prop := ∀ q, ¬ (h ≤ q ∧ q < h + 212) → ¬ (b0 ≤ q ∧ q < b0 + 35) → M q = M0 q
theorem FrHB.of {h b0 : Nat} {M0 M1 M2 : MM} (h1 : FrH h M0 M1) (h2 : FrV b0 M1 M2) : FrHB h b0 M0 M2 := fun q z1 z2 => (h2 q z2).trans (h1 q z1)
theorem rhoF_up (F : Nat → Nat) (k i : Nat) (hk : k ≤ i) (π : Nat → Nat) : va_up (fun j => some (F (rhoN k i π j))) i (some (F (π (i + 1)))) = fun j => some (F (rhoN k (i + 1) π j)) := by
  funext j
  unfold va_up rhoN
  dsimp only
  by_cases h : j = i
  · subst h
    rw [if_pos rfl, if_pos (by omega)]
  · rw [if_neg h]
    by_cases h2 : k ≤ j ∧ j < i
    · rw [if_pos h2, if_pos (by omega)]
    · rw [if_neg h2, if_neg (by omega)]
theorem rhoF_end (F : Nat → Nat) (k n : Nat) (hk : k < n) (π : Nat → Nat) : va_up (fun j => some (F (rhoN k (n - 1) π j))) (n - 1) (some (F (π k))) = fun j => some (F (rotN k n π j)) := by
  funext j
  unfold va_up rhoN rotN
  dsimp only
  by_cases h : j + 1 = n
  · rw [if_pos (by omega), if_pos h]
  · rw [if_neg (by omega), if_neg h]
    by_cases h2 : k ≤ j ∧ j < n - 1
    · rw [if_pos h2, if_pos (by omega)]
    · rw [if_neg h2, if_neg (by omega)]
theorem RepV.frH {g : GG} {A : Nat → Prop} {M0 M : MM} {b h : Nat} {π : Nat → Nat} {v : VV} (hV : RepV g A M0 b π v) (hF : FrH h M0 M) (hd : b + 35 ≤ h ∨ h + 212 ≤ b) : RepV g A M b π v := by
  obtain ⟨h1, h2, h3, h4, h5, h6, h7, h8⟩ := hV
  refine ⟨h1, h2, ?_, ?_, ?_, fun i hi => ?_, fun i hi => ?_, fun j hj => ?_⟩
  · rw [hF _ (by omega)]; exact h3
  · rw [hF _ (by omega)]; exact h4
  · rw [hF _ (by omega)]; exact h5
  · rw [hF _ (by omega)]; exact h6 i hi
  · rw [hF _ (by omega)]; exact h7 i hi
  · have := h2.1 j hj
    rw [hF _ (by omega)]; exact h8 j hj
section
variable {g : GG} {A : Nat → Prop} {M M0 M1 : MM} {h : Nat} {ρ : Nat → Nat} {πs : Nat → Nat → Nat} {vs : Nat → VV} {sz : Int32}
theorem RepH.V (hR : RepH g A M h ρ πs vs sz) {i : Nat} (hi : i < 6) : RepV g A M (h + 2 + 35 * ρ i) (πs i) (vs i) := hR.2.2.2.2.2 i hi
theorem RepH.lt (hR : RepH g A M h ρ πs vs sz) {i : Nat} (hi : i < 6) : ρ i < 6 := hR.2.2.1.1 i hi
theorem RepH.dj (hR : RepH g A M h ρ πs vs sz) {i : Nat} (hi : i < 6) {b0 : Nat} (hd : b0 + 35 ≤ h ∨ h + 212 ≤ b0) : b0 + 35 ≤ h + 2 + 35 * ρ i ∨ h + 2 + 35 * ρ i + 35 ≤ b0 := by
  have := hR.lt hi
  omega
theorem RepH.dj2 (hR : RepH g A M h ρ πs vs sz) {i : Nat} (hi : i < 6) {b0 : Nat} (hd : b0 + 35 ≤ h ∨ h + 212 ≤ b0) : h + 2 + 35 * ρ i + 35 ≤ b0 ∨ b0 + 35 ≤ h + 2 + 35 * ρ i := by
  have := hR.lt hi
  omega
theorem RepH.frV (hR : RepH g A M h ρ πs vs sz) {i : Nat} (hi : i < 6) (hF : FrV (h + 2 + 35 * ρ i) M M1) : FrH h M M1 := fun q hq => hF q (by have := hR.lt hi; omega)
theorem RepH.frB {b0 : Nat} (hR : RepH g A M h ρ πs vs sz) (hF : FrV b0 M M1) (hd : b0 + 35 ≤ h ∨ h + 212 ≤ b0) : RepH g A M1 h ρ πs vs sz := by
  obtain ⟨h1, h2, h3, h4, h5, h6⟩ := hR
  exact ⟨h1, h2, h3, by rw [hF _ (by omega)]; exact h4, by rw [hF _ (by omega)]; exact h5, fun i hi => (h6 i hi).fr hF (by have := h3.1 i hi; omega)⟩
theorem RepH.agr (hR : RepH g A M h ρ πs vs sz) (ha : ∀ q, h ≤ q → q < h + 212 → M1 q = M q) : RepH g A M1 h ρ πs vs sz := by
  obtain ⟨h1, h2, h3, h4, h5, h6⟩ := hR
  refine ⟨h1, h2, h3, by rw [ha _ (by omega) (by omega)]; exact h4, by rw [ha _ (by omega) (by omega)]; exact h5, fun i hi => ?_⟩
  have hl := h3.1 i hi
  obtain ⟨k1, k2, k3, k4, k5, k6, k7, k8⟩ := h6 i hi
  refine ⟨k1, k2, ?_, ?_, ?_, fun i hi => ?_, fun i hi => ?_, fun j hj => ?_⟩
  · rw [ha _ (by omega) (by omega)]; exact k3
  · rw [ha _ (by omega) (by omega)]; exact k4
  · rw [ha _ (by omega) (by omega)]; exact k5
  · rw [ha _ (by omega) (by omega)]; exact k6 i hi
  · rw [ha _ (by omega) (by omega)]; exact k7 i hi
  · have := k2.1 j hj
    rw [ha _ (by omega) (by omega)]; exact k8 j hj
theorem RepH.setV (hR : RepH g A M h ρ πs vs sz) {i : Nat} (hi : i < 6) {v : VV} (hV : RepV g A M1 (h + 2 + 35 * ρ i) (πs i) v) (hF : FrV (h + 2 + 35 * ρ i) M M1) : RepH g A M1 h ρ πs (va_up vs i v) sz := by
  obtain ⟨h1, h2, h3, h4, h5, h6⟩ := hR
  refine ⟨h1, h2, h3, by rw [hF _ (by omega)]; exact h4, by rw [hF _ (by omega)]; exact h5, fun j hj => ?_⟩
  by_cases hji : j = i
  · subst hji
    rw [va_up_self]
    exact hV
  · rw [va_up_ne _ _ hji]
    have hne : ρ j ≠ ρ i := fun z => hji (h3.2 j i hj hi z)
    exact (h6 j hj).fr hF (by omega)
theorem RepH.rot (hR : RepH g A M h ρ πs vs sz) : RepH g A (va_up M (h + 1) (haE g h (rotN 0 6 ρ))) h (rotN 0 6 ρ) (rotN 0 6 πs) (rotN 0 6 vs) sz := by
  obtain ⟨h1, h2, h3, h4, h5, h6⟩ := hR
  have hp : Perm 6 (rotN 0 6 ρ) := by
    refine ⟨fun j hj => ?_, fun i j hi hj z => ?_⟩
    · rw [rot_I]; exact h3.1 _ (by unfold rotI; split; omega; split <;> omega)
    · rw [rot_I, rot_I] at z
      exact rotI_inj (by decide) (h3.2 _ _ (by unfold rotI; split; omega; split <;> omega) (by unfold rotI; split; omega; split <;> omega) z)
  refine ⟨h1, h2, hp, by rw [va_up_ne _ _ (by omega)]; exact h4, va_up_self _ _ _, fun i hi => ?_⟩
  rw [rot_I, rot_I, rot_I]
  have hl : rotI 0 6 i < 6 := by unfold rotI; split; omega; split <;> omega
  have hF : FrV (h + 1 - 35) M (va_up M (h + 1) (haE g h (rotN 0 6 ρ))) ∨ True := Or.inr trivial
  obtain ⟨k1, k2, k3, k4, k5, k6, k7, k8⟩ := h6 _ hl
  refine ⟨k1, k2, ?_, ?_, ?_, fun i hi => ?_, fun i hi => ?_, fun j hj => ?_⟩
  · rw [va_up_ne _ _ (by omega)]; exact k3
  · rw [va_up_ne _ _ (by omega)]; exact k4
  · rw [va_up_ne _ _ (by omega)]; exact k5
  · rw [va_up_ne _ _ (by omega)]; exact k6 i hi
  · rw [va_up_ne _ _ (by omega)]; exact k7 i hi
  · rw [va_up_ne _ _ (by omega)]; exact k8 j hj
theorem RepH.eqv (hR : RepH g A M h ρ πs vs sz) {vs' : Nat → VV} {sz' : Int32} (e1 : vs' = vs) (e2 : sz' = sz) : RepH g A M h ρ πs vs' sz' := by rw [e1, e2]; exact hR
end
def recV (k : Nat) (vs : Nat → VV) (w : VV) (n : Nat) : Nat → VV :=
  va_up (if k = 6 then rotN 0 6 vs else vs) (if k = 6 then 5 else k) (cpyC ((if k = 6 then rotN 0 6 vs else vs) (if k = 6 then 5 else k)) w n)
def recK (k : Nat) : Nat := if k = 6 then 6 else k + 1
section HROWS
variable {p : Program} {l : Launch} {e : Env} {R : Room} {s : State} {m : MethodId} {args : Array Value} {below : List Frame} {meth : Method} {c : Code} {H H0 : Heap} {locs : List Loc} {cells slots : Nat} {Q : State → Prop} {cc : ByteArray} {pc : Nat} {ls : Array Slot} {rest : List Value} {g : GG} {A : Nat → Prop} {M M0 : MM} {own : String} {index : Nat} {Ts : List Cond} {h : Nat} {ρ : Nat → Nat} {πs : Nat → Nat → Nat} {vs : Nat → VV} {sz : Int32}
theorem rh_getSt (hx : p.tables.exec = Jvm.exec) (hb : c.code = cc) (hts : ∀ w ∈ Ts, w.before args s = true) (hin : ∀ w ∈ u_ws RX1 TX1 2, w ∈ Ts) (hown : s.vm.findClass own = some m.cls) (hK : KK g s) (hM : HD g A M H) (hR : RepH g A M h ρ πs vs sz) (hlink : (Cond.fieldLink own index (TX1 0).1 (TX1 0).2.1 (TX1 0).2.2.1).before args s = true) (hdg : decode cc pc = .ok (.getfield index, 3)) (kk : W p l e R s m args below meth c H locs cells slots Q (F0 m (pc + 3) ls (.ref (h + 1) :: rest))) : W p l e R s m args below meth c H locs cells slots Q (F0 m (pc) ls (.ref h :: rest)) :=
  m_get (ci := 1) (C := RX1) (T := TX1) (N := 2) hx hb hts hin hown hK hM hR.1 hR.2.2.2.1 rfl 0 (by decide) hlink rfl hdg kk
theorem rh_getSz (hx : p.tables.exec = Jvm.exec) (hb : c.code = cc) (hts : ∀ w ∈ Ts, w.before args s = true) (hin : ∀ w ∈ u_ws RX1 TX1 2, w ∈ Ts) (hown : s.vm.findClass own = some m.cls) (hK : KK g s) (hM : HD g A M H) (hR : RepH g A M h ρ πs vs sz) (hlink : (Cond.fieldLink own index (TX1 1).1 (TX1 1).2.1 (TX1 1).2.2.1).before args s = true) (hdg : decode cc pc = .ok (.getfield index, 3)) (kk : W p l e R s m args below meth c H locs cells slots Q (F0 m (pc + 3) ls (.int sz :: rest))) : W p l e R s m args below meth c H locs cells slots Q (F0 m (pc) ls (.ref h :: rest)) :=
  m_get (ci := 1) (C := RX1) (T := TX1) (N := 2) hx hb hts hin hown hK hM hR.1 hR.2.2.2.1 rfl 1 (by decide) hlink rfl hdg kk
theorem rh_putSz (hx : p.tables.exec = Jvm.exec) (hb : c.code = cc) (hts : ∀ w ∈ Ts, w.before args s = true) (hin : ∀ w ∈ u_ws RX1 TX1 2, w ∈ Ts) (hown : s.vm.findClass own = some m.cls) (hK : KK g s) (hM : HD g A M H) (hS : va_S A H0 H locs) (hR : RepH g A M h ρ πs vs sz) (hF : FrH h M0 M) (hlink : (Cond.fieldLink own index (TX1 1).1 (TX1 1).2.1 (TX1 1).2.2.1).before args s = true) {x : Int32} (hdg : decode cc pc = .ok (.putfield index, 3)) (kk : ∀ (M1 : MM) (H1 : Heap) (locs1 : List Loc), HD g A M1 H1 → RepH g A M1 h ρ πs vs x → FrH h M0 M1 → va_S A H0 H1 locs1 → W p l e R s m args below meth c H1 locs1 cells slots Q (F0 m (pc + 3) ls rest)) : W p l e R s m args below meth c H locs cells slots Q (F0 m (pc) ls (.int x :: .ref h :: rest)) := by
  refine m_put (ci := 1) (C := RX1) (T := TX1) (N := 2) hx hb hts hin tyX1 tyX1_ok nmX1 hown hK hM hS hR.1 hR.2.2.2.1 rfl 1 (by decide) hlink rfl rfl rfl (Nat.le_of_ble_eq_true rfl) hdg (fun H1 locs1 hM1 hS1 => ?_)
  obtain ⟨h1, h2, h3, h4, h5, h6⟩ := hR
  refine kk _ H1 locs1 hM1 ⟨h1, h2, h3, va_up_self _ _ _, by rw [va_up_ne _ _ (by omega)]; exact h5, fun i hi => ?_⟩ (hF.up (by omega) (by omega)) hS1
  obtain ⟨k1, k2, k3, k4, k5, k6, k7, k8⟩ := h6 i hi
  refine ⟨k1, k2, ?_, ?_, ?_, fun i hi => ?_, fun i hi => ?_, fun j hj => ?_⟩
  · rw [va_up_ne _ _ (by omega)]; exact k3
  · rw [va_up_ne _ _ (by omega)]; exact k4
  · rw [va_up_ne _ _ (by omega)]; exact k5
  · rw [va_up_ne _ _ (by omega)]; exact k6 i hi
  · rw [va_up_ne _ _ (by omega)]; exact k7 i hi
  · rw [va_up_ne _ _ (by omega)]; exact k8 j hj
theorem rh_len (hx : p.tables.exec = Jvm.exec) (hb : c.code = cc) (hK : KK g s) (hM : HD g A M H) (hR : RepH g A M h ρ πs vs sz) (hdg : decode cc pc = .ok (.arraylength, 1)) (kk : W p l e R s m args below meth c H locs cells slots Q (F0 m (pc + 1) ls (.int (nI 6) :: rest))) : W p l e R s m args below meth c H locs cells slots Q (F0 m (pc) ls (.ref (h + 1) :: rest)) :=
  m_alen hx hb hK hM hR.2.1 5 hR.2.2.2.2.1 rfl rfl hdg kk
theorem rh_ald (hx : p.tables.exec = Jvm.exec) (hb : c.code = cc) (hK : KK g s) (hM : HD g A M H) (hR : RepH g A M h ρ πs vs sz) {i : Nat} (hi : i < 6) (hdg : decode cc pc = .ok (.aaload, 1)) (kk : W p l e R s m args below meth c H locs cells slots Q (F0 m (pc + 1) ls (.ref (h + 2 + 35 * ρ i) :: rest))) : W p l e R s m args below meth c H locs cells slots Q (F0 m (pc) ls (.int (nI i) :: .ref (h + 1) :: rest)) :=
  m_aald hx hb hK hM hR.2.1 5 hR.2.2.2.2.1 rfl (vp_in_nI hi (by omega)) (r := .ref (h + 2 + 35 * ρ i)) (by rw [nI_clamp (by omega)]; rfl) hdg kk
end HROWS
set_option maxHeartbeats 4000000 in
set_option maxRecDepth 100000 in
/-- the oldest state goes; its row is kept behind the others -/
theorem k_X1_dropOldest (l : Launch) (g : GG) (A : Nat → Prop) (M0 : MM) (h : Nat) (ρ : Nat → Nat) (πs : Nat → Nat → Nat) (vs : Nat → VV) (sz : Int32) (hR : RepH g A M0 h ρ πs vs sz)  : Met l yX1_dropOldest (Uw yX1_dropOldest cX1_dropOldest 4 (Option.none : Option ClassFile.FieldType)) (rmD 0) (PreM [.ref (h)] g A M0) (PosV (fun M1 => RepH g A M1 h (rotN 0 6 ρ) (rotN 0 6 πs) (rotN 0 6 vs) (nI 5) ∧ FrH h M0 M1) g A) 0 0 A := by
  refine mk_Met (own := RX1) rfl rfl (by decide) (Nat.le_of_ble_eq_true rfl) ?_
  intro p e s m below meth c ls aa Q haa hQ hx hb hr hlk hml hown hts hK hM hS hl hnm
  obtain ⟨M, hMM⟩ : ∃ M, M = M0 := ⟨_, rfl⟩
  rw [← hMM] at hM hR
  have ht : ∀ w ∈ lw_good, w.before _ s = true := fun w h => hts w (List.mem_cons_of_mem _ h)
  have hF : FrH h M0 M := by rw [hMM]; exact FrH.rf
  have hl : lv_has ls 4 [(0, .ref (h))] := hl
  have hR0 := hR
  refine lv_aload_n hx hb dX1_dropOldest_0 rfl (lv_at hl 0 rfl) ?_
  refine rh_getSt hx hb ht ui_X1 hown hK hM hR (ht _ uw_221) dX1_dropOldest_1 ?_
  refine rh_len hx hb hK hM hR dX1_dropOldest_4 ?_
  refine lv_iconst (v := nI 1) hx hb dX1_dropOldest_5 (by first | rfl | decide) ?_
  refine lv_isub hx hb dX1_dropOldest_6 ?_
  rw [show nI 6 - nI 1 = nI 5 from rfl]
  refine lv_istore_n (lv' := [(1, .int (nI 5)), (0, .ref (h))]) hx hb dX1_dropOldest_7 rfl hl (by decide) rfl (fun ls hl => ?_)
  refine lv_aload_n hx hb dX1_dropOldest_8 rfl (lv_at hl 1 rfl) ?_
  refine rh_getSt hx hb ht ui_X1 hown hK hM hR (ht _ uw_221) dX1_dropOldest_9 ?_
  refine lv_iconst (v := nI 0) hx hb dX1_dropOldest_12 (by first | rfl | decide) ?_
  refine rh_ald hx hb hK hM hR (by decide : 0 < 6) dX1_dropOldest_13 ?_
  refine lv_astore_n (lv' := [(2, .ref (h + 2 + 35 * ρ 0)), (1, .int (nI 5)), (0, .ref (h))]) hx hb dX1_dropOldest_14 rfl hl (by decide) rfl (fun ls hl => ?_)
  refine lv_iconst (v := nI 0) hx hb dX1_dropOldest_15 (by first | rfl | decide) ?_
  refine lv_istore_n (lv' := [(3, .int (nI 0)), (2, .ref (h + 2 + 35 * ρ 0)), (1, .int (nI 5)), (0, .ref (h))]) hx hb dX1_dropOldest_16 rfl hl (by decide) rfl (fun ls hl => ?_)
  have loop_17 : ∀ (z_17 : Nat) (i : Nat) (M : MM) (H : Heap) (locs : List Loc) (ls : Array Slot), 5 - i < z_17 → i ≤ 5 → M = va_up M0 (h + 1) (haE g h (rhoN 0 i ρ)) → HD g A M H → va_S A s.heap H locs → lv_has ls 4 [(3, .int (nI i)), (2, .ref (h + 2 + 35 * ρ 0)), (1, .int (nI 5)), (0, .ref (h))] → W p l e (rmD 0) s m aa below meth c H locs 0 0 Q (F0 m 17 ls []) := by
    intro z_17
    induction z_17 with
    | zero => intro i M H locs ls hz hi2 hMu; exact absurd hz (Nat.not_lt_zero _)
    | succ z_17 ih_17 =>
    intro i M H locs ls hz hi2 hMu hM  hS hl
    have hW : M h = hiE h sz := by rw [hMu, va_up_ne _ _ (by omega), ← hMM]; exact hR0.2.2.2.1
    have hRA : M (h + 1) = haE g h (rhoN 0 i ρ) := by rw [hMu]; exact va_up_self _ _ _
    have hPi : ∀ j, j < 6 → M (h + 2 + 35 * ρ j) = wE (h + 2 + 35 * ρ j) (vs j).1 := fun j hj => by rw [hMu, va_up_ne _ _ (by omega), ← hMM]; exact (hR0.2.2.2.2.2 j hj).W
    refine lv_iload_n hx hb dX1_dropOldest_17 rfl (lv_at hl 0 rfl) ?_
    refine lv_iload_n hx hb dX1_dropOldest_18 rfl (lv_at hl 2 rfl) ?_
    refine lv_icmp_ge (tgt := 42) hx hb dX1_dropOldest_19 (by decide) (fun c_19 => ?_) (fun c_19 => ?_)
    · have hin : i = 5 := Nat.le_antisymm hi2 (nI_le_of (by omega) (by omega) c_19)
      subst hin
      refine lv_aload_n hx hb dX1_dropOldest_42 rfl (lv_at hl 3 rfl) ?_
      refine m_get (ci := 1) (C := RX1) (T := TX1) (N := 2) hx hb ht ui_X1 hown hK hM hR0.1 hW rfl 0 (by decide) (ht _ uw_221) rfl dX1_dropOldest_43 ?_
      refine lv_iload_n hx hb dX1_dropOldest_46 rfl (lv_at hl 2 rfl) ?_
      refine lv_aload_n hx hb dX1_dropOldest_47 rfl (lv_at hl 1 rfl) ?_
      refine m_aast hx hb hK hM hS hR0.2.1 5 6 hRA rfl (hR0.2.2.2.2.2 _ (show 0 < 6 by omega)).AW (hPi _ (show 0 < 6 by omega)) rfl (vp_in_nI (show 5 < 6 by omega) (by omega)) dX1_dropOldest_48 (fun H locs hM hS => ?_)
      rw [hMu, va_upup, show (Sum.inl (g.2 5, 6, Sum.inr (Sum.inr (Sum.inr (Sum.inr (va_up (fun j => some (h + 2 + 35 * rhoN 0 5 ρ j)) (nI 5).toNatClampNeg (some (h + 2 + 35 * ρ 0))))))) : va_E) = haE g h (rotN 0 6 ρ) by rw [nI_clamp (show 5 < 2 ^ 31 by omega)]; exact congrArg (fun z => (Sum.inl (g.2 5, 6, Sum.inr (Sum.inr (Sum.inr (Sum.inr z)))) : va_E)) (rhoF_end (fun z => h + 2 + 35 * z) 0 6 (by omega) ρ)] at hM
      have hR2 : RepH g A (va_up M0 (h + 1) (haE g h (rotN 0 6 ρ))) h (rotN 0 6 ρ) (rotN 0 6 πs) (rotN 0 6 vs) sz := by rw [← hMM]; exact hR0.rot
      have hF : FrH h M0 (va_up M0 (h + 1) (haE g h (rotN 0 6 ρ))) := FrH.rf.up (by omega) (by omega)
      have hR := hR2
      refine lv_aload_n hx hb dX1_dropOldest_49 rfl (lv_at hl 3 rfl) ?_
      refine lv_iload_n hx hb dX1_dropOldest_50 rfl (lv_at hl 2 rfl) ?_
      refine rh_putSz hx hb ht ui_X1 hown hK hM hS hR hF (ht _ uw_222) dX1_dropOldest_51 (fun M H locs hM hR hF hS => ?_)
      subst hQ
      exact m_vret hx hb hr hlk hK hM hS dX1_dropOldest_54 (⟨hR, hF⟩)
    · have hin : i < 5 := nI_lt_of (by omega) (by omega) c_19
      refine lv_aload_n hx hb dX1_dropOldest_22 rfl (lv_at hl 3 rfl) ?_
      refine m_get (ci := 1) (C := RX1) (T := TX1) (N := 2) hx hb ht ui_X1 hown hK hM hR0.1 hW rfl 0 (by decide) (ht _ uw_221) rfl dX1_dropOldest_23 ?_
      refine lv_iload_n hx hb dX1_dropOldest_26 rfl (lv_at hl 0 rfl) ?_
      refine lv_aload_n hx hb dX1_dropOldest_27 rfl (lv_at hl 3 rfl) ?_
      refine m_get (ci := 1) (C := RX1) (T := TX1) (N := 2) hx hb ht ui_X1 hown hK hM hR0.1 hW rfl 0 (by decide) (ht _ uw_221) rfl dX1_dropOldest_28 ?_
      refine lv_iload_n hx hb dX1_dropOldest_31 rfl (lv_at hl 0 rfl) ?_
      refine lv_iconst (v := nI 1) hx hb dX1_dropOldest_32 (by first | rfl | decide) ?_
      refine lv_iadd hx hb dX1_dropOldest_33 ?_
      rw [nI_add]
      have e41 : rhoN 0 i ρ (i + 1) = ρ (i + 1) := if_neg (by omega)
      refine m_aald hx hb hK hM hR0.2.1 5 hRA rfl (vp_in_nI (show i + 1 < 6 by omega) (by omega)) (r := .ref (h + 2 + 35 * ρ (i + 1))) (by rw [nI_clamp (by omega), e41]; rfl) dX1_dropOldest_34 ?_
      refine m_aast hx hb hK hM hS hR0.2.1 5 6 hRA rfl (hR0.2.2.2.2.2 _ (show i + 1 < 6 by omega)).AW (hPi _ (show i + 1 < 6 by omega)) rfl (vp_in_nI (show i < 6 by omega) (by omega)) dX1_dropOldest_35 (fun H locs hM hS => ?_)
      rw [hMu, va_upup, show (Sum.inl (g.2 5, 6, Sum.inr (Sum.inr (Sum.inr (Sum.inr (va_up (fun j => some (h + 2 + 35 * rhoN 0 i ρ j)) (nI i).toNatClampNeg (some (h + 2 + 35 * ρ (i + 1)))))))) : va_E) = haE g h (rhoN 0 (i + 1) ρ) by rw [nI_clamp (show i < 2 ^ 31 by omega), rhoF_up (fun z => h + 2 + 35 * z) 0 i (by omega) ρ]] at hM
      refine lv_iinc (v := nI (i + 1)) (lv' := [(3, .int (nI (i + 1))), (2, .ref (h + 2 + 35 * ρ 0)), (1, .int (nI 5)), (0, .ref (h))]) hx hb dX1_dropOldest_36 hl (k := 0) rfl (nI_1 _) (by decide) rfl (fun ls hl => ?_)
      refine lv_goto (tgt := 17) hx hb dX1_dropOldest_39 (by decide) ?_
      exact ih_17 (i + 1) _ _ _ _ (by omega) (by omega) rfl hM hS (lv_sub hl [0, 1, 2, 3] rfl)
  exact loop_17 _ 0 _ _ _ _ (Nat.lt_succ_self _) (by omega) (by rw [rho_0, hMM]; funext q; exact (va_upself (by rw [← hMM]; exact hR0.2.2.2.2.1) q).symm) hM hS (lv_sub hl [0, 1, 2, 3] rfl)

set_option maxHeartbeats 4000000 in
set_option maxRecDepth 100000 in
/-- the state before a change is recorded -/
theorem k_X1_record (l : Launch) (g : GG) (A : Nat → Prop) (M0 : MM) (h : Nat) (ρ : Nat → Nat) (πs : Nat → Nat → Nat) (vs : Nat → VV) (sz : Int32) (hR : RepH g A M0 h ρ πs vs sz) (b0 : Nat) (π0 : Nat → Nat) (w : VV) (n : Nat) (hO : RepV g A M0 b0 π0 w) (hd : b0 + 35 ≤ h ∨ h + 212 ≤ b0) (k : Nat) (hsz : sz = nI k) (hk : k ≤ 6) (hn : w.1 3 = nI n) (hn20 : n ≤ 20) : Met l yX1_record (Uw yX1_record cX1_record 2 (Option.none : Option ClassFile.FieldType)) (rmD 3) (PreM [.ref (h), .ref (b0)] g A M0) (PosV (fun M1 => (∃ ρ1 πs1, RepH g A M1 h ρ1 πs1 (recV k vs w n) (nI (recK k))) ∧ FrH h M0 M1) g A) 0 0 A := by
  refine mk_Met (own := RX1) rfl rfl (by decide) (Nat.le_of_ble_eq_true rfl) ?_
  intro p e s m below meth c ls aa Q haa hQ hx hb hr hlk hml hown hts hK hM hS hl hnm
  obtain ⟨M, hMM⟩ : ∃ M, M = M0 := ⟨_, rfl⟩
  rw [← hMM] at hM hR
  have ht : ∀ w ∈ lw_good, w.before _ s = true := fun w h => hts w (List.mem_cons_of_mem _ h)
  have hF : FrH h M0 M := by rw [hMM]; exact FrH.rf
  have hl : lv_has ls 2 [(0, .ref (h)), (1, .ref (b0))] := hl
  subst hsz
  by_cases hk6 : k < 6
  · refine lv_aload_n hx hb dX1_record_0 rfl (lv_at hl 0 rfl) ?_
    refine rh_getSz hx hb ht ui_X1 hown hK hM hR (ht _ uw_222) dX1_record_1 ?_
    refine lv_aload_n hx hb dX1_record_4 rfl (lv_at hl 0 rfl) ?_
    refine rh_getSt hx hb ht ui_X1 hown hK hM hR (ht _ uw_221) dX1_record_5 ?_
    refine rh_len hx hb hK hM hR dX1_record_8 ?_
    refine lv_icmp_lt (tgt := 16) hx hb dX1_record_9 (by decide) (fun c_9 => ?_) (fun c_9 => absurd (nI_lt hk6 (by decide)) c_9)
    refine lv_aload_n hx hb dX1_record_16 rfl (lv_at hl 0 rfl) ?_
    refine rh_getSz hx hb ht ui_X1 hown hK hM hR (ht _ uw_222) dX1_record_17 ?_
    refine lv_if_lt (tgt := 58) hx hb dX1_record_20 (by decide) (fun c_20 => absurd c_20 (nI_pos (by omega))) (fun c_20 => ?_)
    refine lv_aload_n hx hb dX1_record_23 rfl (lv_at hl 0 rfl) ?_
    refine rh_getSz hx hb ht ui_X1 hown hK hM hR (ht _ uw_222) dX1_record_24 ?_
    refine lv_aload_n hx hb dX1_record_27 rfl (lv_at hl 0 rfl) ?_
    refine rh_getSt hx hb ht ui_X1 hown hK hM hR (ht _ uw_221) dX1_record_28 ?_
    refine rh_len hx hb hK hM hR dX1_record_31 ?_
    refine lv_icmp_ge (tgt := 58) hx hb dX1_record_32 (by decide) (fun c_32 => absurd c_32 (nI_ge hk6 (by decide))) (fun c_32 => ?_)
    refine lv_aload_n hx hb dX1_record_35 rfl (lv_at hl 0 rfl) ?_
    refine rh_getSt hx hb ht ui_X1 hown hK hM hR (ht _ uw_221) dX1_record_36 ?_
    refine lv_aload_n hx hb dX1_record_39 rfl (lv_at hl 0 rfl) ?_
    refine rh_getSz hx hb ht ui_X1 hown hK hM hR (ht _ uw_222) dX1_record_40 ?_
    refine rh_ald hx hb hK hM hR (hk6) dX1_record_43 ?_
    refine lv_aload_n hx hb dX1_record_44 rfl (lv_at hl 1 rfl) ?_
    refine m_callV (As := [.ref (b0)]) (rest := []) ⟨hx, hb, hml, hown, ht⟩ (k_X6_copyFrom l g A M (h + 2 + 35 * ρ k) (πs k) (vs k) b0 π0 w n (hR.V hk6) (hO.frH hF hd) (hR.dj hk6 hd) hn hn20) (cwV 1 ht (gU uw_312 uw_313 uw_314 uw_35 uw_315) rfl rfl rfl (by decide +kernel) ⟨by decide, by decide⟩) hK hM hS (m_recv hK hM (hR.V hk6).AW (hR.V hk6).W rfl) rfl hl.1 rfl (Nat.le_of_ble_eq_true rfl) dX1_record_45 ⟨by decide, by decide⟩ (fun M H locs hp hM hS => ?_)
    obtain ⟨hV, hF1⟩ := hp
    have hF := hF.tr (hR.frV hk6 hF1)
    have hR := hR.setV hk6 hV hF1
    refine lv_aload_n hx hb dX1_record_48 rfl (lv_at hl 0 rfl) ?_
    refine lv_dup hx hb dX1_record_49 rfl ?_
    refine rh_getSz hx hb ht ui_X1 hown hK hM hR (ht _ uw_222) dX1_record_50 ?_
    refine lv_iconst (v := nI 1) hx hb dX1_record_53 (by first | rfl | decide) ?_
    refine lv_iadd hx hb dX1_record_54 ?_
    refine rh_putSz hx hb ht ui_X1 hown hK hM hS hR hF (ht _ uw_222) dX1_record_55 (fun M H locs hM hR hF hS => ?_)
    subst hQ
    exact m_vret hx hb hr hlk hK hM hS dX1_record_58 (⟨⟨_, _, hR.eqv (by unfold recV; rw [if_neg (by omega), if_neg (by omega)]) (by unfold recK; rw [if_neg (by omega)]; exact (nI_add k 1).symm)⟩, hF⟩)
  · have hk7 : k = 6 := by omega
    subst hk7
    refine lv_aload_n hx hb dX1_record_0 rfl (lv_at hl 0 rfl) ?_
    refine rh_getSz hx hb ht ui_X1 hown hK hM hR (ht _ uw_222) dX1_record_1 ?_
    refine lv_aload_n hx hb dX1_record_4 rfl (lv_at hl 0 rfl) ?_
    refine rh_getSt hx hb ht ui_X1 hown hK hM hR (ht _ uw_221) dX1_record_5 ?_
    refine rh_len hx hb hK hM hR dX1_record_8 ?_
    refine lv_icmp_lt (tgt := 16) hx hb dX1_record_9 (by decide) (fun c_9 => absurd c_9 (by decide)) (fun c_9 => ?_)
    refine lv_aload_n hx hb dX1_record_12 rfl (lv_at hl 0 rfl) ?_
    refine m_callV (As := []) (rest := []) ⟨hx, hb, hml, hown, ht⟩ (k_X1_dropOldest l g A M h ρ πs vs (nI 6) hR) (cwV 0 ht (gU uw_308 uw_310 uw_0 uw_39 uw_311) rfl rfl rfl (by decide +kernel) ⟨by decide, by decide⟩) hK hM hS (m_recv hK hM hR.1 hR.2.2.2.1 rfl) rfl hl.1 rfl (Nat.le_of_ble_eq_true rfl) dX1_record_13 ⟨by decide, by decide⟩ (fun M H locs hp hM hS => ?_)
    obtain ⟨hR, hF1⟩ := hp
    have hF := hF.tr hF1
    refine lv_aload_n hx hb dX1_record_16 rfl (lv_at hl 0 rfl) ?_
    refine rh_getSz hx hb ht ui_X1 hown hK hM hR (ht _ uw_222) dX1_record_17 ?_
    refine lv_if_lt (tgt := 58) hx hb dX1_record_20 (by decide) (fun c_20 => absurd c_20 (nI_pos (by omega))) (fun c_20 => ?_)
    refine lv_aload_n hx hb dX1_record_23 rfl (lv_at hl 0 rfl) ?_
    refine rh_getSz hx hb ht ui_X1 hown hK hM hR (ht _ uw_222) dX1_record_24 ?_
    refine lv_aload_n hx hb dX1_record_27 rfl (lv_at hl 0 rfl) ?_
    refine rh_getSt hx hb ht ui_X1 hown hK hM hR (ht _ uw_221) dX1_record_28 ?_
    refine rh_len hx hb hK hM hR dX1_record_31 ?_
    refine lv_icmp_ge (tgt := 58) hx hb dX1_record_32 (by decide) (fun c_32 => absurd c_32 (by decide)) (fun c_32 => ?_)
    refine lv_aload_n hx hb dX1_record_35 rfl (lv_at hl 0 rfl) ?_
    refine rh_getSt hx hb ht ui_X1 hown hK hM hR (ht _ uw_221) dX1_record_36 ?_
    refine lv_aload_n hx hb dX1_record_39 rfl (lv_at hl 0 rfl) ?_
    refine rh_getSz hx hb ht ui_X1 hown hK hM hR (ht _ uw_222) dX1_record_40 ?_
    refine rh_ald hx hb hK hM hR (by decide : 5 < 6) dX1_record_43 ?_
    refine lv_aload_n hx hb dX1_record_44 rfl (lv_at hl 1 rfl) ?_
    refine m_callV (As := [.ref (b0)]) (rest := []) ⟨hx, hb, hml, hown, ht⟩ (k_X6_copyFrom l g A M (h + 2 + 35 * rotN 0 6 ρ 5) (rotN 0 6 πs 5) (rotN 0 6 vs 5) b0 π0 w n (hR.V (show 5 < 6 by decide)) (hO.frH hF hd) (hR.dj (show 5 < 6 by decide) hd) hn hn20) (cwV 1 ht (gU uw_312 uw_313 uw_314 uw_35 uw_315) rfl rfl rfl (by decide +kernel) ⟨by decide, by decide⟩) hK hM hS (m_recv hK hM (hR.V (show 5 < 6 by decide)).AW (hR.V (show 5 < 6 by decide)).W rfl) rfl hl.1 rfl (Nat.le_of_ble_eq_true rfl) dX1_record_45 ⟨by decide, by decide⟩ (fun M H locs hp hM hS => ?_)
    obtain ⟨hV, hF1⟩ := hp
    have hF := hF.tr (hR.frV (show 5 < 6 by decide) hF1)
    have hR := hR.setV (show 5 < 6 by decide) hV hF1
    refine lv_aload_n hx hb dX1_record_48 rfl (lv_at hl 0 rfl) ?_
    refine lv_dup hx hb dX1_record_49 rfl ?_
    refine rh_getSz hx hb ht ui_X1 hown hK hM hR (ht _ uw_222) dX1_record_50 ?_
    refine lv_iconst (v := nI 1) hx hb dX1_record_53 (by first | rfl | decide) ?_
    refine lv_iadd hx hb dX1_record_54 ?_
    refine rh_putSz hx hb ht ui_X1 hown hK hM hS hR hF (ht _ uw_222) dX1_record_55 (fun M H locs hM hR hF hS => ?_)
    subst hQ
    exact m_vret hx hb hr hlk hK hM hS dX1_record_58 (⟨⟨_, _, hR.eqv rfl rfl⟩, hF⟩)

set_option maxHeartbeats 4000000 in
set_option maxRecDepth 100000 in
/-- the latest state is given back -/
theorem k_X1_takeBack (l : Launch) (g : GG) (A : Nat → Prop) (M0 : MM) (h : Nat) (ρ : Nat → Nat) (πs : Nat → Nat → Nat) (vs : Nat → VV) (sz : Int32) (hR : RepH g A M0 h ρ πs vs sz) (b0 : Nat) (π0 : Nat → Nat) (w : VV) (n : Nat) (hO : RepV g A M0 b0 π0 w) (hd : b0 + 35 ≤ h ∨ h + 212 ≤ b0) (k : Nat) (hsz : sz = nI (k + 1)) (hk : k + 1 ≤ 6) (hn : (vs k).1 3 = nI n) (hn20 : n ≤ 20) : Met l yX1_takeBack (Uw yX1_takeBack cX1_takeBack 2 (Option.some ClassFile.FieldType.boolean)) (rmD 3) (PreM [.ref (h), .ref (b0)] g A M0) (PosI (fun r M1 => r = 1 ∧ RepH g A M1 h ρ πs vs (nI k) ∧ RepV g A M1 b0 π0 (cpyC w (vs k) n) ∧ FrHB h b0 M0 M1) g A) 0 0 A := by
  refine mk_Met (own := RX1) rfl rfl (by decide) (Nat.le_of_ble_eq_true rfl) ?_
  intro p e s m below meth c ls aa Q haa hQ hx hb hr hlk hml hown hts hK hM hS hl hnm
  obtain ⟨M, hMM⟩ : ∃ M, M = M0 := ⟨_, rfl⟩
  rw [← hMM] at hM hR
  have ht : ∀ w ∈ lw_good, w.before _ s = true := fun w h => hts w (List.mem_cons_of_mem _ h)
  have hF : FrH h M0 M := by rw [hMM]; exact FrH.rf
  have hl : lv_has ls 2 [(0, .ref (h)), (1, .ref (b0))] := hl
  subst hsz
  have hk5 : k < 6 := by omega
  refine lv_aload_n hx hb dX1_takeBack_0 rfl (lv_at hl 0 rfl) ?_
  refine rh_getSz hx hb ht ui_X1 hown hK hM hR (ht _ uw_222) dX1_takeBack_1 ?_
  refine lv_if_le (tgt := 19) hx hb dX1_takeBack_4 (by decide) (fun c_4 => absurd c_4 (nI_nle (by omega) (by omega))) (fun c_4 => ?_)
  refine lv_aload_n hx hb dX1_takeBack_7 rfl (lv_at hl 0 rfl) ?_
  refine rh_getSz hx hb ht ui_X1 hown hK hM hR (ht _ uw_222) dX1_takeBack_8 ?_
  refine lv_aload_n hx hb dX1_takeBack_11 rfl (lv_at hl 0 rfl) ?_
  refine rh_getSt hx hb ht ui_X1 hown hK hM hR (ht _ uw_221) dX1_takeBack_12 ?_
  refine rh_len hx hb hK hM hR dX1_takeBack_15 ?_
  refine lv_icmp_le (tgt := 21) hx hb dX1_takeBack_16 (by decide) (fun c_16 => ?_) (fun c_16 => absurd (nI_le (show k + 1 ≤ 6 by omega) (by decide)) c_16)
  refine lv_aload_n hx hb dX1_takeBack_21 rfl (lv_at hl 0 rfl) ?_
  refine lv_dup hx hb dX1_takeBack_22 rfl ?_
  refine rh_getSz hx hb ht ui_X1 hown hK hM hR (ht _ uw_222) dX1_takeBack_23 ?_
  refine lv_iconst (v := nI 1) hx hb dX1_takeBack_26 (by first | rfl | decide) ?_
  refine lv_isub hx hb dX1_takeBack_27 ?_
  rw [show nI (k + 1) - nI 1 = nI k from nI_pred k]
  refine rh_putSz hx hb ht ui_X1 hown hK hM hS hR hF (ht _ uw_222) dX1_takeBack_28 (fun M H locs hM hR hF hS => ?_)
  refine lv_aload_n hx hb dX1_takeBack_31 rfl (lv_at hl 1 rfl) ?_
  refine lv_aload_n hx hb dX1_takeBack_32 rfl (lv_at hl 0 rfl) ?_
  refine rh_getSt hx hb ht ui_X1 hown hK hM hR (ht _ uw_221) dX1_takeBack_33 ?_
  refine lv_aload_n hx hb dX1_takeBack_36 rfl (lv_at hl 0 rfl) ?_
  refine rh_getSz hx hb ht ui_X1 hown hK hM hR (ht _ uw_222) dX1_takeBack_37 ?_
  refine rh_ald hx hb hK hM hR (hk5) dX1_takeBack_40 ?_
  refine m_callV (As := [.ref (h + 2 + 35 * ρ k)]) (rest := []) ⟨hx, hb, hml, hown, ht⟩ (k_X6_copyFrom l g A M b0 π0 w (h + 2 + 35 * ρ k) (πs k) (vs k) n (hO.frH hF hd) (hR.V hk5) (hR.dj2 hk5 hd) hn hn20) (cwV 1 ht (gU uw_312 uw_313 uw_314 uw_35 uw_315) rfl rfl rfl (by decide +kernel) ⟨by decide, by decide⟩) hK hM hS (m_recv hK hM (hO.frH hF hd).AW (hO.frH hF hd).W rfl) rfl hl.1 rfl (Nat.le_of_ble_eq_true rfl) dX1_takeBack_41 ⟨by decide, by decide⟩ (fun M H locs hp hM hS => ?_)
  obtain ⟨hV, hF1⟩ := hp
  have hR := hR.frB hF1 hd
  have hFB : FrHB h b0 M0 M := FrHB.of hF hF1
  refine lv_iconst (v := nI 1) hx hb dX1_takeBack_44 (by first | rfl | decide) ?_
  subst hQ
  exact m_zret hx hb hr (rfl) hlk hK hM hS dX1_takeBack_45 (⟨rfl, hR, hV, hFB⟩)

set_option maxHeartbeats 4000000 in
set_option maxRecDepth 100000 in
/-- there is no state to give back -/
theorem k_X1_takeBack_0 (l : Launch) (g : GG) (A : Nat → Prop) (M0 : MM) (h : Nat) (ρ : Nat → Nat) (πs : Nat → Nat → Nat) (vs : Nat → VV) (sz : Int32) (hR : RepH g A M0 h ρ πs vs sz) (b0 : Nat) (hsz : sz = 0) : Met l yX1_takeBack (Uw yX1_takeBack cX1_takeBack 2 (Option.some ClassFile.FieldType.boolean)) (rmD 3) (PreM [.ref (h), .ref (b0)] g A M0) (PosI (fun r M1 => r = 0 ∧ M1 = M0) g A) 0 0 A := by
  refine mk_Met (own := RX1) rfl rfl (by decide) (Nat.le_of_ble_eq_true rfl) ?_
  intro p e s m below meth c ls aa Q haa hQ hx hb hr hlk hml hown hts hK hM hS hl hnm
  obtain ⟨M, hMM⟩ : ∃ M, M = M0 := ⟨_, rfl⟩
  rw [← hMM] at hM hR
  have ht : ∀ w ∈ lw_good, w.before _ s = true := fun w h => hts w (List.mem_cons_of_mem _ h)
  have hF : FrH h M0 M := by rw [hMM]; exact FrH.rf
  have hl : lv_has ls 2 [(0, .ref (h)), (1, .ref (b0))] := hl
  refine lv_aload_n hx hb dX1_takeBack_0 rfl (lv_at hl 0 rfl) ?_
  refine rh_getSz hx hb ht ui_X1 hown hK hM hR (ht _ uw_222) dX1_takeBack_1 ?_
  refine lv_if_le (tgt := 19) hx hb dX1_takeBack_4 (by decide) (fun c_4 => ?_) (fun c_4 => absurd (by rw [hsz]; decide) c_4)
  refine lv_iconst (v := nI 0) hx hb dX1_takeBack_19 (by first | rfl | decide) ?_
  subst hQ
  exact m_zret hx hb hr (rfl) hlk hK hM hS dX1_takeBack_20 (⟨rfl, hMM⟩)

