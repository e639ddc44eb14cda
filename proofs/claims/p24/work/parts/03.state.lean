/-! THE VALLEY: 35 cells in a row: the object b, its two arrays b+1, b+2, six gauges with their pages b+3 .. b+14, twenty runners b+15 .. b+34 (the array of runners is permuted by π). Its value: valley fields, gauge fields (page fields are 8..15), runner fields. -/
abbrev VV : Type := (Nat → Int32) × (Nat → Nat → Int32) × (Nat → Nat → Int32)
def up2 (f : Nat → Nat → Int32) (i k : Nat) (x : Int32) : Nat → Nat → Int32 := va_up f i (va_up (f i) k x)
abbrev vW (v : VV) (k : Nat) (x : Int32) : VV := (va_up v.1 k x, v.2.1, v.2.2)
abbrev vG (v : VV) (i k : Nat) (x : Int32) : VV := (v.1, up2 v.2.1 i k x, v.2.2)
abbrev vR (v : VV) (j k : Nat) (x : Int32) : VV := (v.1, v.2.1, up2 v.2.2 j k x)
abbrev gE (b i : Nat) (f : Nat → Int32) : va_E := .inr (0, [.int (f 0), .int (f 1), .int (f 2), .int (f 3), .int (f 4), .int (f 5), .int (f 6), .int (f 7), .ref (b + 4 + 2 * i)])
abbrev pE (f : Nat → Int32) : va_E := .inr (4, [.int (f 8), .int (f 9), .int (f 10), .int (f 11), .int (f 12), .int (f 13), .int (f 14), .int (f 15)])
abbrev rE (f : Nat → Int32) : va_E := .inr (5, [.int (f 0), .int (f 1), .int (f 2), .int (f 3), .int (f 4)])
abbrev wE (b : Nat) (f : Nat → Int32) : va_E := .inr (6, [.int (f 0), .int (f 1), .int (f 2), .int (f 3), .ref (b + 1), .ref (b + 2)])
abbrev gaE (g : GG) (b : Nat) : va_E := .inl (g.2 3, 6, .inr (.inr (.inr (.inr (fun i => some (b + 3 + 2 * i))))))
abbrev raE (g : GG) (b : Nat) (π : Nat → Nat) : va_E := .inl (g.2 4, 20, .inr (.inr (.inr (.inr (fun j => some (b + 15 + π j))))))
def Perm (n : Nat) (π : Nat → Nat) : Prop := (∀ j, j < n → π j < n) ∧ ∀ i j, i < n → j < n → π i = π j → i = j
def RepV (g : GG) (A : Nat → Prop) (M : MM) (b : Nat) (π : Nat → Nat) (v : VV) : Prop :=
  (∀ q, b ≤ q → q < b + 35 → A q) ∧ Perm 20 π ∧ M b = wE b v.1 ∧ M (b + 1) = gaE g b ∧ M (b + 2) = raE g b π ∧
  (∀ i, i < 6 → M (b + 3 + 2 * i) = gE b i (v.2.1 i)) ∧ (∀ i, i < 6 → M (b + 4 + 2 * i) = pE (v.2.1 i)) ∧ ∀ j, j < 20 → M (b + 15 + π j) = rE (v.2.2 j)
def EV (g : GG) (A : Nat → Prop) (M : MM) (b : Nat) (v : VV) : Prop := ∃ π, RepV g A M b π v
def FrV (b : Nat) (M0 M : MM) : Prop := ∀ q, ¬ (b ≤ q ∧ q < b + 35) → M q = M0 q
theorem FrV.rf {b : Nat} {M : MM} : FrV b M M := fun _ _ => rfl
theorem FrV.tr {b : Nat} {M0 M1 M2 : MM} (h1 : FrV b M0 M1) (h2 : FrV b M1 M2) : FrV b M0 M2 := fun q h => (h2 q h).trans (h1 q h)
section
variable {g : GG} {A : Nat → Prop} {M M0 M1 : MM} {b : Nat} {π : Nat → Nat} {v : VV}
theorem RepV.AW (h : RepV g A M b π v) : A b := h.1 b (by omega) (by omega)
theorem RepV.AGA (h : RepV g A M b π v) : A (b + 1) := h.1 _ (by omega) (by omega)
theorem RepV.ARA (h : RepV g A M b π v) : A (b + 2) := h.1 _ (by omega) (by omega)
theorem RepV.AG (h : RepV g A M b π v) {i : Nat} (hi : i < 6) : A (b + 3 + 2 * i) := h.1 _ (by omega) (by omega)
theorem RepV.AP (h : RepV g A M b π v) {i : Nat} (hi : i < 6) : A (b + 4 + 2 * i) := h.1 _ (by omega) (by omega)
theorem RepV.AR (h : RepV g A M b π v) {j : Nat} (hj : j < 20) : A (b + 15 + π j) := h.1 _ (by omega) (by have := h.2.1.1 j hj; omega)
theorem RepV.perm (h : RepV g A M b π v) : Perm 20 π := h.2.1
theorem RepV.W (h : RepV g A M b π v) : M b = wE b v.1 := h.2.2.1
theorem RepV.GA (h : RepV g A M b π v) : M (b + 1) = gaE g b := h.2.2.2.1
theorem RepV.RA (h : RepV g A M b π v) : M (b + 2) = raE g b π := h.2.2.2.2.1
theorem RepV.G (h : RepV g A M b π v) {i : Nat} (hi : i < 6) : M (b + 3 + 2 * i) = gE b i (v.2.1 i) := h.2.2.2.2.2.1 i hi
theorem RepV.P (h : RepV g A M b π v) {i : Nat} (hi : i < 6) : M (b + 4 + 2 * i) = pE (v.2.1 i) := h.2.2.2.2.2.2.1 i hi
theorem RepV.R (h : RepV g A M b π v) {j : Nat} (hj : j < 20) : M (b + 15 + π j) = rE (v.2.2 j) := h.2.2.2.2.2.2.2 j hj
theorem RepV.fr {b' : Nat} (h : RepV g A M0 b π v) (hF : FrV b' M0 M) (hd : b + 35 ≤ b' ∨ b' + 35 ≤ b) : RepV g A M b π v := by
  obtain ⟨h1, h2, h3, h4, h5, h6, h7, h8⟩ := h
  refine ⟨h1, h2, ?_, ?_, ?_, fun i hi => ?_, fun i hi => ?_, fun j hj => ?_⟩
  · rw [hF _ (by omega)]; exact h3
  · rw [hF _ (by omega)]; exact h4
  · rw [hF _ (by omega)]; exact h5
  · rw [hF _ (by omega)]; exact h6 i hi
  · rw [hF _ (by omega)]; exact h7 i hi
  · have := h2.1 j hj
    rw [hF _ (by omega)]; exact h8 j hj
theorem FrV.up (hF : FrV b M0 M) {a : Nat} {e : va_E} (h1 : b ≤ a) (h2 : a < b + 35) : FrV b M0 (va_up M a e) := fun q h => by
  rw [va_up_ne _ _ (by omega)]
  exact hF q h
theorem RepV.setW (h : RepV g A M b π v) {f : Nat → Int32} : RepV g A (va_up M b (wE b f)) b π (f, v.2) := by
  obtain ⟨h1, h2, h3, h4, h5, h6, h7, h8⟩ := h
  refine ⟨h1, h2, va_up_self _ _ _, ?_, ?_, fun i hi => ?_, fun i hi => ?_, fun j hj => ?_⟩
  · rw [va_up_ne _ _ (by omega)]; exact h4
  · rw [va_up_ne _ _ (by omega)]; exact h5
  · rw [va_up_ne _ _ (by omega)]; exact h6 i hi
  · rw [va_up_ne _ _ (by omega)]; exact h7 i hi
  · rw [va_up_ne _ _ (by omega)]; exact h8 j hj
theorem RepV.setRA (h : RepV g A M b π v) {π' : Nat → Nat} {r' : Nat → Nat → Int32} (hp : Perm 20 π') (hr : ∀ j, j < 20 → ∃ k, k < 20 ∧ π' j = π k ∧ r' j = v.2.2 k) : RepV g A (va_up M (b + 2) (raE g b π')) b π' (v.1, v.2.1, r') := by
  obtain ⟨h1, h2, h3, h4, h5, h6, h7, h8⟩ := h
  refine ⟨h1, hp, ?_, ?_, va_up_self _ _ _, fun i hi => ?_, fun i hi => ?_, fun j hj => ?_⟩
  · rw [va_up_ne _ _ (by omega)]; exact h3
  · rw [va_up_ne _ _ (by omega)]; exact h4
  · rw [va_up_ne _ _ (by omega)]; exact h6 i hi
  · rw [va_up_ne _ _ (by omega)]; exact h7 i hi
  · obtain ⟨k, hk, e1, e2⟩ := hr j hj
    rw [va_up_ne _ _ (by omega), e1]
    show M (b + 15 + π k) = rE (r' j)
    rw [e2]; exact h8 k hk
theorem RepV.setG (h : RepV g A M b π v) {i : Nat} (hi : i < 6) {f : Nat → Int32} (hf : ∀ k, ¬ k < 8 → f k = v.2.1 i k) : RepV g A (va_up M (b + 3 + 2 * i) (gE b i f)) b π (v.1, va_up v.2.1 i f, v.2.2) := by
  obtain ⟨h1, h2, h3, h4, h5, h6, h7, h8⟩ := h
  refine ⟨h1, h2, ?_, ?_, ?_, fun i' hi' => ?_, fun i' hi' => ?_, fun j hj => ?_⟩
  · rw [va_up_ne _ _ (by omega)]; exact h3
  · rw [va_up_ne _ _ (by omega)]; exact h4
  · rw [va_up_ne _ _ (by omega)]; exact h5
  · by_cases hq : i' = i
    · subst hq
      rw [va_up_self]
      show _ = gE b i' (va_up v.2.1 i' f i')
      rw [va_up_self]
    · rw [va_up_ne _ _ (by omega)]
      show _ = gE b i' (va_up v.2.1 i f i')
      rw [va_up_ne _ _ hq]
      exact h6 i' hi'
  · rw [va_up_ne _ _ (by omega)]
    show _ = pE (va_up v.2.1 i f i')
    by_cases hq : i' = i
    · subst hq
      rw [va_up_self, h7 i' hi']
      simp only [pE, hf _ (show ¬ 8 < 8 by omega), hf _ (show ¬ 9 < 8 by omega), hf _ (show ¬ 10 < 8 by omega), hf _ (show ¬ 11 < 8 by omega), hf _ (show ¬ 12 < 8 by omega), hf _ (show ¬ 13 < 8 by omega), hf _ (show ¬ 14 < 8 by omega), hf _ (show ¬ 15 < 8 by omega)]
    · rw [va_up_ne _ _ hq]
      exact h7 i' hi'
  · have := h2.1 j hj
    rw [va_up_ne _ _ (by omega)]; exact h8 j hj
theorem RepV.setP (h : RepV g A M b π v) {i : Nat} (hi : i < 6) {f : Nat → Int32} (hf : ∀ k, k < 8 → f k = v.2.1 i k) : RepV g A (va_up M (b + 4 + 2 * i) (pE f)) b π (v.1, va_up v.2.1 i f, v.2.2) := by
  obtain ⟨h1, h2, h3, h4, h5, h6, h7, h8⟩ := h
  refine ⟨h1, h2, ?_, ?_, ?_, fun i' hi' => ?_, fun i' hi' => ?_, fun j hj => ?_⟩
  · rw [va_up_ne _ _ (by omega)]; exact h3
  · rw [va_up_ne _ _ (by omega)]; exact h4
  · rw [va_up_ne _ _ (by omega)]; exact h5
  · rw [va_up_ne _ _ (by omega)]
    show _ = gE b i' (va_up v.2.1 i f i')
    by_cases hq : i' = i
    · subst hq
      rw [va_up_self, h6 i' hi']
      simp only [gE, hf _ (show 0 < 8 by omega), hf _ (show 1 < 8 by omega), hf _ (show 2 < 8 by omega), hf _ (show 3 < 8 by omega), hf _ (show 4 < 8 by omega), hf _ (show 5 < 8 by omega), hf _ (show 6 < 8 by omega), hf _ (show 7 < 8 by omega)]
    · rw [va_up_ne _ _ hq]
      exact h6 i' hi'
  · by_cases hq : i' = i
    · subst hq
      rw [va_up_self]
      show _ = pE (va_up v.2.1 i' f i')
      rw [va_up_self]
    · rw [va_up_ne _ _ (by omega)]
      show _ = pE (va_up v.2.1 i f i')
      rw [va_up_ne _ _ hq]
      exact h7 i' hi'
  · have := h2.1 j hj
    rw [va_up_ne _ _ (by omega)]; exact h8 j hj
theorem RepV.setR (h : RepV g A M b π v) {j : Nat} (hj : j < 20) {f : Nat → Int32} : RepV g A (va_up M (b + 15 + π j) (rE f)) b π (v.1, v.2.1, va_up v.2.2 j f) := by
  obtain ⟨h1, h2, h3, h4, h5, h6, h7, h8⟩ := h
  refine ⟨h1, h2, ?_, ?_, ?_, fun i hi => ?_, fun i hi => ?_, fun j' hj' => ?_⟩
  · rw [va_up_ne _ _ (by omega)]; exact h3
  · rw [va_up_ne _ _ (by omega)]; exact h4
  · rw [va_up_ne _ _ (by omega)]; exact h5
  · rw [va_up_ne _ _ (by omega)]; exact h6 i hi
  · rw [va_up_ne _ _ (by omega)]; exact h7 i hi
  · by_cases hq : j' = j
    · subst hq
      rw [va_up_self]
      show _ = rE (va_up v.2.2 j' f j')
      rw [va_up_self]
    · have hne : π j' ≠ π j := fun z => hq (h2.2 j' j hj' hj z)
      rw [va_up_ne _ _ (by omega)]
      show _ = rE (va_up v.2.2 j f j')
      rw [va_up_ne _ _ hq]
      exact h8 j' hj'
theorem wE_up {f : Nat → Int32} {k : Nat} (hk : k < 4) (x : Int32) : (Sum.inr (6, ([.int (f 0), .int (f 1), .int (f 2), .int (f 3), .ref (b + 1), .ref (b + 2)] : List Value).set k (.int x)) : va_E) = wE b (va_up f k x) := by
  match k, hk with
  | 0, _ => rfl
  | 1, _ => rfl
  | 2, _ => rfl
  | 3, _ => rfl
theorem gE_up {i : Nat} {f : Nat → Int32} {k : Nat} (hk : k < 8) (x : Int32) : (Sum.inr (0, ([.int (f 0), .int (f 1), .int (f 2), .int (f 3), .int (f 4), .int (f 5), .int (f 6), .int (f 7), .ref (b + 4 + 2 * i)] : List Value).set k (.int x)) : va_E) = gE b i (va_up f k x) := by
  match k, hk with
  | 0, _ => rfl
  | 1, _ => rfl
  | 2, _ => rfl
  | 3, _ => rfl
  | 4, _ => rfl
  | 5, _ => rfl
  | 6, _ => rfl
  | 7, _ => rfl
theorem pE_up {f : Nat → Int32} {k : Nat} (hk : k < 8) (x : Int32) : (Sum.inr (4, ([.int (f 8), .int (f 9), .int (f 10), .int (f 11), .int (f 12), .int (f 13), .int (f 14), .int (f 15)] : List Value).set k (.int x)) : va_E) = pE (va_up f (8 + k) x) := by
  match k, hk with
  | 0, _ => rfl
  | 1, _ => rfl
  | 2, _ => rfl
  | 3, _ => rfl
  | 4, _ => rfl
  | 5, _ => rfl
  | 6, _ => rfl
  | 7, _ => rfl
theorem rE_up {f : Nat → Int32} {k : Nat} (hk : k < 5) (x : Int32) : (Sum.inr (5, ([.int (f 0), .int (f 1), .int (f 2), .int (f 3), .int (f 4)] : List Value).set k (.int x)) : va_E) = rE (va_up f k x) := by
  match k, hk with
  | 0, _ => rfl
  | 1, _ => rfl
  | 2, _ => rfl
  | 3, _ => rfl
  | 4, _ => rfl
end
section VROWS
variable {p : Program} {l : Launch} {e : Env} {R : Room} {s : State} {m : MethodId} {args : Array Value} {below : List Frame} {meth : Method} {c : Code} {H H0 : Heap} {locs : List Loc} {cells slots : Nat} {Q : State → Prop} {cc : ByteArray} {pc : Nat} {ls : Array Slot} {rest : List Value} {g : GG} {A : Nat → Prop} {M M0 : MM} {own : String} {index : Nat} {Ts : List Cond} {b : Nat} {π : Nat → Nat} {v : VV}
theorem rv_getW (hx : p.tables.exec = Jvm.exec) (hb : c.code = cc) (hts : ∀ w ∈ Ts, w.before args s = true) (hin : ∀ w ∈ u_ws RX6 TX6 6, w ∈ Ts) (hown : s.vm.findClass own = some m.cls) (hK : KK g s) (hM : HD g A M H) (hR : RepV g A M b π v) (k : Nat) (hk : k < 4) (hlink : (Cond.fieldLink own index (TX6 k).1 (TX6 k).2.1 (TX6 k).2.2.1).before args s = true) (hdg : decode cc pc = .ok (.getfield index, 3)) (kk : W p l e R s m args below meth c H locs cells slots Q (F0 m (pc + 3) ls (.int (v.1 k) :: rest))) : W p l e R s m args below meth c H locs cells slots Q (F0 m pc ls (.ref (b) :: rest)) :=
  m_get (ci := 6) (C := RX6) (T := TX6) (N := 6) hx hb hts hin hown hK hM hR.AW hR.W rfl k (by omega) hlink (by match k, hk with
    | 0, _ => rfl
    | 1, _ => rfl
    | 2, _ => rfl
    | 3, _ => rfl) hdg kk
theorem rv_getG (hx : p.tables.exec = Jvm.exec) (hb : c.code = cc) (hts : ∀ w ∈ Ts, w.before args s = true) (hin : ∀ w ∈ u_ws RX0 TX0 9, w ∈ Ts) (hown : s.vm.findClass own = some m.cls) (hK : KK g s) (hM : HD g A M H) (hR : RepV g A M b π v) {i : Nat} (hi : i < 6) (k : Nat) (hk : k < 8) (hlink : (Cond.fieldLink own index (TX0 k).1 (TX0 k).2.1 (TX0 k).2.2.1).before args s = true) (hdg : decode cc pc = .ok (.getfield index, 3)) (kk : W p l e R s m args below meth c H locs cells slots Q (F0 m (pc + 3) ls (.int (v.2.1 i k) :: rest))) : W p l e R s m args below meth c H locs cells slots Q (F0 m pc ls (.ref (b + 3 + 2 * i) :: rest)) :=
  m_get (ci := 0) (C := RX0) (T := TX0) (N := 9) hx hb hts hin hown hK hM (hR.AG hi) (hR.G hi) rfl k (by omega) hlink (by match k, hk with
    | 0, _ => rfl
    | 1, _ => rfl
    | 2, _ => rfl
    | 3, _ => rfl
    | 4, _ => rfl
    | 5, _ => rfl
    | 6, _ => rfl
    | 7, _ => rfl) hdg kk
theorem rv_getP (hx : p.tables.exec = Jvm.exec) (hb : c.code = cc) (hts : ∀ w ∈ Ts, w.before args s = true) (hin : ∀ w ∈ u_ws RX4 TX4 8, w ∈ Ts) (hown : s.vm.findClass own = some m.cls) (hK : KK g s) (hM : HD g A M H) (hR : RepV g A M b π v) {i : Nat} (hi : i < 6) (k : Nat) (hk : k < 8) (hlink : (Cond.fieldLink own index (TX4 k).1 (TX4 k).2.1 (TX4 k).2.2.1).before args s = true) (hdg : decode cc pc = .ok (.getfield index, 3)) (kk : W p l e R s m args below meth c H locs cells slots Q (F0 m (pc + 3) ls (.int (v.2.1 i (8 + k)) :: rest))) : W p l e R s m args below meth c H locs cells slots Q (F0 m pc ls (.ref (b + 4 + 2 * i) :: rest)) :=
  m_get (ci := 4) (C := RX4) (T := TX4) (N := 8) hx hb hts hin hown hK hM (hR.AP hi) (hR.P hi) rfl k (by omega) hlink (by match k, hk with
    | 0, _ => rfl
    | 1, _ => rfl
    | 2, _ => rfl
    | 3, _ => rfl
    | 4, _ => rfl
    | 5, _ => rfl
    | 6, _ => rfl
    | 7, _ => rfl) hdg kk
theorem rv_getR (hx : p.tables.exec = Jvm.exec) (hb : c.code = cc) (hts : ∀ w ∈ Ts, w.before args s = true) (hin : ∀ w ∈ u_ws RX5 TX5 5, w ∈ Ts) (hown : s.vm.findClass own = some m.cls) (hK : KK g s) (hM : HD g A M H) (hR : RepV g A M b π v) {j : Nat} (hj : j < 20) (k : Nat) (hk : k < 5) (hlink : (Cond.fieldLink own index (TX5 k).1 (TX5 k).2.1 (TX5 k).2.2.1).before args s = true) (hdg : decode cc pc = .ok (.getfield index, 3)) (kk : W p l e R s m args below meth c H locs cells slots Q (F0 m (pc + 3) ls (.int (v.2.2 j k) :: rest))) : W p l e R s m args below meth c H locs cells slots Q (F0 m pc ls (.ref (b + 15 + π j) :: rest)) :=
  m_get (ci := 5) (C := RX5) (T := TX5) (N := 5) hx hb hts hin hown hK hM (hR.AR hj) (hR.R hj) rfl k (by omega) hlink (by match k, hk with
    | 0, _ => rfl
    | 1, _ => rfl
    | 2, _ => rfl
    | 3, _ => rfl
    | 4, _ => rfl) hdg kk
theorem rv_putW (hx : p.tables.exec = Jvm.exec) (hb : c.code = cc) (hts : ∀ w ∈ Ts, w.before args s = true) (hin : ∀ w ∈ u_ws RX6 TX6 6, w ∈ Ts) (hown : s.vm.findClass own = some m.cls) (hK : KK g s) (hM : HD g A M H) (hS : va_S A H0 H locs) (hR : RepV g A M b π v) (hF : FrV b M0 M) (k : Nat) (hk : k < 4) (hlink : (Cond.fieldLink own index (TX6 k).1 (TX6 k).2.1 (TX6 k).2.2.1).before args s = true) {x : Int32} (hdg : decode cc pc = .ok (.putfield index, 3)) (kk : ∀ (M1 : MM) (H1 : Heap) (locs1 : List Loc), HD g A M1 H1 → RepV g A M1 b π (vW v k x) → FrV b M0 M1 → va_S A H0 H1 locs1 → W p l e R s m args below meth c H1 locs1 cells slots Q (F0 m (pc + 3) ls rest)) : W p l e R s m args below meth c H locs cells slots Q (F0 m pc ls (.int x :: .ref (b) :: rest)) := by
  have e1 : (TX6 k).2.2.2 = false ∧ tyX6 k = .int := by
    match k, hk with
    | 0, _ => exact ⟨rfl, rfl⟩
    | 1, _ => exact ⟨rfl, rfl⟩
    | 2, _ => exact ⟨rfl, rfl⟩
    | 3, _ => exact ⟨rfl, rfl⟩
  refine m_put (ci := 6) (C := RX6) (T := TX6) (N := 6) hx hb hts hin tyX6 tyX6_ok nmX6 hown hK hM hS hR.AW hR.W rfl k (by omega) hlink e1.1 (by rw [e1.2]; rfl) (by rw [e1.2]; rfl) (by simp; omega) hdg (fun H1 locs1 hM1 hS1 => ?_)
  rw [wE_up hk x] at hM1
  exact kk _ H1 locs1 hM1 (hR.setW) (hF.up (by omega) (by omega)) hS1
theorem rv_putG (hx : p.tables.exec = Jvm.exec) (hb : c.code = cc) (hts : ∀ w ∈ Ts, w.before args s = true) (hin : ∀ w ∈ u_ws RX0 TX0 9, w ∈ Ts) (hown : s.vm.findClass own = some m.cls) (hK : KK g s) (hM : HD g A M H) (hS : va_S A H0 H locs) (hR : RepV g A M b π v) (hF : FrV b M0 M) {i : Nat} (hi : i < 6) (k : Nat) (hk : k < 8) (hlink : (Cond.fieldLink own index (TX0 k).1 (TX0 k).2.1 (TX0 k).2.2.1).before args s = true) {x : Int32} (hdg : decode cc pc = .ok (.putfield index, 3)) (kk : ∀ (M1 : MM) (H1 : Heap) (locs1 : List Loc), HD g A M1 H1 → RepV g A M1 b π (vG v i k x) → FrV b M0 M1 → va_S A H0 H1 locs1 → W p l e R s m args below meth c H1 locs1 cells slots Q (F0 m (pc + 3) ls rest)) : W p l e R s m args below meth c H locs cells slots Q (F0 m pc ls (.int x :: .ref (b + 3 + 2 * i) :: rest)) := by
  have e1 : (TX0 k).2.2.2 = false ∧ tyX0 k = .int := by
    match k, hk with
    | 0, _ => exact ⟨rfl, rfl⟩
    | 1, _ => exact ⟨rfl, rfl⟩
    | 2, _ => exact ⟨rfl, rfl⟩
    | 3, _ => exact ⟨rfl, rfl⟩
    | 4, _ => exact ⟨rfl, rfl⟩
    | 5, _ => exact ⟨rfl, rfl⟩
    | 6, _ => exact ⟨rfl, rfl⟩
    | 7, _ => exact ⟨rfl, rfl⟩
  refine m_put (ci := 0) (C := RX0) (T := TX0) (N := 9) hx hb hts hin tyX0 tyX0_ok nmX0 hown hK hM hS (hR.AG hi) (hR.G hi) rfl k (by omega) hlink e1.1 (by rw [e1.2]; rfl) (by rw [e1.2]; rfl) (by simp; omega) hdg (fun H1 locs1 hM1 hS1 => ?_)
  rw [gE_up hk x] at hM1
  exact kk _ H1 locs1 hM1 (hR.setG hi (fun q hq => va_up_ne _ _ (by omega))) (hF.up (by omega) (by omega)) hS1
theorem rv_putP (hx : p.tables.exec = Jvm.exec) (hb : c.code = cc) (hts : ∀ w ∈ Ts, w.before args s = true) (hin : ∀ w ∈ u_ws RX4 TX4 8, w ∈ Ts) (hown : s.vm.findClass own = some m.cls) (hK : KK g s) (hM : HD g A M H) (hS : va_S A H0 H locs) (hR : RepV g A M b π v) (hF : FrV b M0 M) {i : Nat} (hi : i < 6) (k : Nat) (hk : k < 8) (hlink : (Cond.fieldLink own index (TX4 k).1 (TX4 k).2.1 (TX4 k).2.2.1).before args s = true) {x : Int32} (hdg : decode cc pc = .ok (.putfield index, 3)) (kk : ∀ (M1 : MM) (H1 : Heap) (locs1 : List Loc), HD g A M1 H1 → RepV g A M1 b π (vG v i (8 + k) x) → FrV b M0 M1 → va_S A H0 H1 locs1 → W p l e R s m args below meth c H1 locs1 cells slots Q (F0 m (pc + 3) ls rest)) : W p l e R s m args below meth c H locs cells slots Q (F0 m pc ls (.int x :: .ref (b + 4 + 2 * i) :: rest)) := by
  have e1 : (TX4 k).2.2.2 = false ∧ tyX4 k = .int := by
    match k, hk with
    | 0, _ => exact ⟨rfl, rfl⟩
    | 1, _ => exact ⟨rfl, rfl⟩
    | 2, _ => exact ⟨rfl, rfl⟩
    | 3, _ => exact ⟨rfl, rfl⟩
    | 4, _ => exact ⟨rfl, rfl⟩
    | 5, _ => exact ⟨rfl, rfl⟩
    | 6, _ => exact ⟨rfl, rfl⟩
    | 7, _ => exact ⟨rfl, rfl⟩
  refine m_put (ci := 4) (C := RX4) (T := TX4) (N := 8) hx hb hts hin tyX4 tyX4_ok nmX4 hown hK hM hS (hR.AP hi) (hR.P hi) rfl k (by omega) hlink e1.1 (by rw [e1.2]; rfl) (by rw [e1.2]; rfl) (by simp; omega) hdg (fun H1 locs1 hM1 hS1 => ?_)
  rw [pE_up hk x] at hM1
  exact kk _ H1 locs1 hM1 (hR.setP hi (fun q hq => va_up_ne _ _ (by omega))) (hF.up (by omega) (by omega)) hS1
theorem rv_putR (hx : p.tables.exec = Jvm.exec) (hb : c.code = cc) (hts : ∀ w ∈ Ts, w.before args s = true) (hin : ∀ w ∈ u_ws RX5 TX5 5, w ∈ Ts) (hown : s.vm.findClass own = some m.cls) (hK : KK g s) (hM : HD g A M H) (hS : va_S A H0 H locs) (hR : RepV g A M b π v) (hF : FrV b M0 M) {j : Nat} (hj : j < 20) (k : Nat) (hk : k < 5) (hlink : (Cond.fieldLink own index (TX5 k).1 (TX5 k).2.1 (TX5 k).2.2.1).before args s = true) {x : Int32} (hdg : decode cc pc = .ok (.putfield index, 3)) (kk : ∀ (M1 : MM) (H1 : Heap) (locs1 : List Loc), HD g A M1 H1 → RepV g A M1 b π (vR v j k x) → FrV b M0 M1 → va_S A H0 H1 locs1 → W p l e R s m args below meth c H1 locs1 cells slots Q (F0 m (pc + 3) ls rest)) : W p l e R s m args below meth c H locs cells slots Q (F0 m pc ls (.int x :: .ref (b + 15 + π j) :: rest)) := by
  have e1 : (TX5 k).2.2.2 = false ∧ tyX5 k = .int := by
    match k, hk with
    | 0, _ => exact ⟨rfl, rfl⟩
    | 1, _ => exact ⟨rfl, rfl⟩
    | 2, _ => exact ⟨rfl, rfl⟩
    | 3, _ => exact ⟨rfl, rfl⟩
    | 4, _ => exact ⟨rfl, rfl⟩
  refine m_put (ci := 5) (C := RX5) (T := TX5) (N := 5) hx hb hts hin tyX5 tyX5_ok nmX5 hown hK hM hS (hR.AR hj) (hR.R hj) rfl k (by omega) hlink e1.1 (by rw [e1.2]; rfl) (by rw [e1.2]; rfl) (by simp; omega) hdg (fun H1 locs1 hM1 hS1 => ?_)
  rw [rE_up hk x] at hM1
  exact kk _ H1 locs1 hM1 (hR.setR hj) (hF.up (by omega) (by have := hR.perm.1 j hj; omega)) hS1
theorem rv_getga (hx : p.tables.exec = Jvm.exec) (hb : c.code = cc) (hts : ∀ w ∈ Ts, w.before args s = true) (hin : ∀ w ∈ u_ws RX6 TX6 6, w ∈ Ts) (hown : s.vm.findClass own = some m.cls) (hK : KK g s) (hM : HD g A M H) (hR : RepV g A M b π v) (hlink : (Cond.fieldLink own index (TX6 4).1 (TX6 4).2.1 (TX6 4).2.2.1).before args s = true) (hdg : decode cc pc = .ok (.getfield index, 3)) (kk : W p l e R s m args below meth c H locs cells slots Q (F0 m (pc + 3) ls (.ref (b + 1) :: rest))) : W p l e R s m args below meth c H locs cells slots Q (F0 m pc ls (.ref b :: rest)) :=
  m_get (ci := 6) (C := RX6) (T := TX6) (N := 6) hx hb hts hin hown hK hM hR.AW hR.W rfl 4 (by omega) hlink rfl hdg kk
theorem rv_getra (hx : p.tables.exec = Jvm.exec) (hb : c.code = cc) (hts : ∀ w ∈ Ts, w.before args s = true) (hin : ∀ w ∈ u_ws RX6 TX6 6, w ∈ Ts) (hown : s.vm.findClass own = some m.cls) (hK : KK g s) (hM : HD g A M H) (hR : RepV g A M b π v) (hlink : (Cond.fieldLink own index (TX6 5).1 (TX6 5).2.1 (TX6 5).2.2.1).before args s = true) (hdg : decode cc pc = .ok (.getfield index, 3)) (kk : W p l e R s m args below meth c H locs cells slots Q (F0 m (pc + 3) ls (.ref (b + 2) :: rest))) : W p l e R s m args below meth c H locs cells slots Q (F0 m pc ls (.ref b :: rest)) :=
  m_get (ci := 6) (C := RX6) (T := TX6) (N := 6) hx hb hts hin hown hK hM hR.AW hR.W rfl 5 (by omega) hlink rfl hdg kk
theorem rv_getpg (hx : p.tables.exec = Jvm.exec) (hb : c.code = cc) (hts : ∀ w ∈ Ts, w.before args s = true) (hin : ∀ w ∈ u_ws RX0 TX0 9, w ∈ Ts) (hown : s.vm.findClass own = some m.cls) (hK : KK g s) (hM : HD g A M H) (hR : RepV g A M b π v) {i : Nat} (hi : i < 6) (hlink : (Cond.fieldLink own index (TX0 8).1 (TX0 8).2.1 (TX0 8).2.2.1).before args s = true) (hdg : decode cc pc = .ok (.getfield index, 3)) (kk : W p l e R s m args below meth c H locs cells slots Q (F0 m (pc + 3) ls (.ref (b + 4 + 2 * i) :: rest))) : W p l e R s m args below meth c H locs cells slots Q (F0 m pc ls (.ref (b + 3 + 2 * i) :: rest)) :=
  m_get (ci := 0) (C := RX0) (T := TX0) (N := 9) hx hb hts hin hown hK hM (hR.AG hi) (hR.G hi) rfl 8 (by omega) hlink rfl hdg kk
theorem ald_ix {f : Nat → Option Nat} {i a : Nat} (hi : i < 2 ^ 31) (h : f i = some a) : va_rf (f (nI i).toNatClampNeg) = .ref a := by
  rw [nI_clamp hi, h]
  rfl
theorem rv_aldG (hx : p.tables.exec = Jvm.exec) (hb : c.code = cc) (hK : KK g s) (hM : HD g A M H) (hR : RepV g A M b π v) {i : Nat} (hi : i < 6) (hdg : decode cc pc = .ok (.aaload, 1)) (kk : W p l e R s m args below meth c H locs cells slots Q (F0 m (pc + 1) ls (.ref (b + 3 + 2 * i) :: rest))) : W p l e R s m args below meth c H locs cells slots Q (F0 m pc ls (.int (nI i) :: .ref (b + 1) :: rest)) :=
  m_aald hx hb hK hM hR.AGA 3 hR.GA rfl (vp_in_nI hi (by omega)) (r := .ref (b + 3 + 2 * i)) (by rw [nI_clamp (by omega)]; rfl) hdg kk
theorem rv_aldR (hx : p.tables.exec = Jvm.exec) (hb : c.code = cc) (hK : KK g s) (hM : HD g A M H) (hR : RepV g A M b π v) {j : Nat} (hj : j < 20) (hdg : decode cc pc = .ok (.aaload, 1)) (kk : W p l e R s m args below meth c H locs cells slots Q (F0 m (pc + 1) ls (.ref (b + 15 + π j) :: rest))) : W p l e R s m args below meth c H locs cells slots Q (F0 m pc ls (.int (nI j) :: .ref (b + 2) :: rest)) :=
  m_aald hx hb hK hM hR.ARA 4 hR.RA rfl (vp_in_nI hj (by omega)) (r := .ref (b + 15 + π j)) (by rw [nI_clamp (by omega)]; rfl) hdg kk
theorem rv_lenG (hx : p.tables.exec = Jvm.exec) (hb : c.code = cc) (hK : KK g s) (hM : HD g A M H) (hR : RepV g A M b π v) (hdg : decode cc pc = .ok (.arraylength, 1)) (kk : W p l e R s m args below meth c H locs cells slots Q (F0 m (pc + 1) ls (.int (nI 6) :: rest))) : W p l e R s m args below meth c H locs cells slots Q (F0 m pc ls (.ref (b + 1) :: rest)) :=
  m_alen hx hb hK hM hR.AGA 3 hR.GA rfl rfl hdg kk
theorem rv_lenR (hx : p.tables.exec = Jvm.exec) (hb : c.code = cc) (hK : KK g s) (hM : HD g A M H) (hR : RepV g A M b π v) (hdg : decode cc pc = .ok (.arraylength, 1)) (kk : W p l e R s m args below meth c H locs cells slots Q (F0 m (pc + 1) ls (.int (nI 20) :: rest))) : W p l e R s m args below meth c H locs cells slots Q (F0 m pc ls (.ref (b + 2) :: rest)) :=
  m_alen hx hb hK hM hR.ARA 4 hR.RA rfl rfl hdg kk
/-! calls by what they do to the valley -/
variable {a : Nat} {y : MethodName} {bytes : ByteArray} {maxL nL n : Nat} {ret : Option FieldType} {ws : List Cond} {rm : Room} {C : String} {As : List Value} {st0 : List Value}
theorem m_callRI {val : Int32} (S : CallFix p m c cc nL s args Ts own) (hMet : Met l y ws rm (PreM (.ref a :: As) g A M) (PosI (fun r M1 => r = val ∧ M1 = M) g A) 0 0 A) (cw : CallW R s args own C index y bytes maxL ret ws rm 0 0 n) (hK : KK g s) (hM : HD g A M H) (hS : va_S A H0 H locs) (hrc : ∃ cell : Cell, H[a]? = some cell ∧ cell.vm.isStatics = false ∧ s.vm.findClass C = some cell.cls) (hn : As.length = n) (hsz : ls.size = nL) (hst : st0 = As.reverse ++ .ref a :: rest) (hW : (rest.map fun v => v.category).sum ≤ 8) (hdg : decode cc pc = .ok (.invokevirtual index, 3)) (hf : cells ≤ R.cells ∧ slots ≤ R.slots)
    (kk : ∀ (H1 : Heap) (locs1 : List Loc), HD g A M H1 → va_S A H0 H1 locs1 → W p l e R s m args below meth c H1 locs1 cells slots Q (F0 m (pc + 3) ls (.int val :: rest))) : W p l e R s m args below meth c H locs cells slots Q (F0 m pc ls st0) :=
  m_callI S hMet cw hK hM hS hrc hn hsz hst hW hdg hf (fun r M1 H1 locs1 hp hM1 hS1 => by
    obtain ⟨h1, h2⟩ := hp
    rw [h1]
    rw [h2] at hM1
    exact kk H1 locs1 hM1 hS1)
theorem m_callRSI {val : Int32} (S : CallFix p m c cc nL s args Ts own) (hMet : Met l y ws rm (PreM As g A M) (PosI (fun r M1 => r = val ∧ M1 = M) g A) 0 0 A) (cw : CallB R s args own index y bytes maxL ret ws rm 0 0 n ∧ (Cond.static y).before args s = true) (hK : KK g s) (hM : HD g A M H) (hS : va_S A H0 H locs) (hn : As.length = n) (hsz : ls.size = nL) (hst : st0 = As.reverse ++ rest) (hW : (rest.map fun v => v.category).sum ≤ 8) (hdg : decode cc pc = .ok (.invokestatic index, 3)) (hf : cells ≤ R.cells ∧ slots ≤ R.slots)
    (kk : ∀ (H1 : Heap) (locs1 : List Loc), HD g A M H1 → va_S A H0 H1 locs1 → W p l e R s m args below meth c H1 locs1 cells slots Q (F0 m (pc + 3) ls (.int val :: rest))) : W p l e R s m args below meth c H locs cells slots Q (F0 m pc ls st0) :=
  m_callSI S hMet cw hK hM hS hn hsz hst hW hdg hf (fun r M1 H1 locs1 hp hM1 hS1 => by
    obtain ⟨h1, h2⟩ := hp
    rw [h1]
    rw [h2] at hM1
    exact kk H1 locs1 hM1 hS1)
theorem m_callRQ {val : Option Nat} {w : Value} (hw : va_rf val = w) (S : CallFix p m c cc nL s args Ts own) (hMet : Met l y ws rm (PreM (.ref a :: As) g A M) (PosQ (fun r M1 => r = val ∧ M1 = M) g A) 0 0 A) (cw : CallW R s args own C index y bytes maxL ret ws rm 0 0 n) (hK : KK g s) (hM : HD g A M H) (hS : va_S A H0 H locs) (hrc : ∃ cell : Cell, H[a]? = some cell ∧ cell.vm.isStatics = false ∧ s.vm.findClass C = some cell.cls) (hn : As.length = n) (hsz : ls.size = nL) (hst : st0 = As.reverse ++ .ref a :: rest) (hW : (rest.map fun v => v.category).sum ≤ 8) (hdg : decode cc pc = .ok (.invokevirtual index, 3)) (hf : cells ≤ R.cells ∧ slots ≤ R.slots)
    (kk : ∀ (H1 : Heap) (locs1 : List Loc), HD g A M H1 → va_S A H0 H1 locs1 → W p l e R s m args below meth c H1 locs1 cells slots Q (F0 m (pc + 3) ls (w :: rest))) : W p l e R s m args below meth c H locs cells slots Q (F0 m pc ls st0) :=
  m_callQ S hMet cw hK hM hS hrc hn hsz hst hW hdg hf (fun r M1 H1 locs1 hp hM1 hS1 => by
    obtain ⟨h1, h2⟩ := hp
    rw [h1, hw]
    rw [h2] at hM1
    exact kk H1 locs1 hM1 hS1)
end VROWS

