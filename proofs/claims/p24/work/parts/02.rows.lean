/-! MEMORY AS A FUNCTION: the cells of the world, by address; the domain A never changes (but in constructors). -/
abbrev GG : Type := va_G × (Nat → ClassId)
abbrev MM : Type := Nat → va_E
abbrev tysOf (g : GG) : List (ClassId × FieldType) := [(g.2 0, .char), (g.2 1, .boolean), (g.2 2, .boolean), (g.2 3, .object RX0), (g.2 4, .object RX5), (g.2 5, .object RX6)]
def KK (g : GG) (U : State) : Prop := va_K g.1 vwCl (tysOf g) U
def HD (g : GG) (A : Nat → Prop) (M : MM) (H : Heap) : Prop := ∀ a, A a → va_at g.1 vwCl (a, M a) H
theorem HD.one {g : GG} {A : Nat → Prop} {M : MM} {H : Heap} (h : HD g A M H) {a : Nat} (hA : A a) : va_P g.1 vwCl [(a, M a)] H := by
  intro k q hk
  cases k with
  | zero => cases hk; exact h a hA
  | succ k => simp at hk
theorem HD.put {g : GG} {A : Nat → Prop} {M : MM} {H H1 : Heap} (h : HD g A M H) {a : Nat} {e : va_E} (he : va_at g.1 vwCl (a, e) H1) (oq : ∀ q : Nat, q ≠ a → H1[q]? = H[q]?) : HD g A (va_up M a e) H1 := by
  intro b hb
  by_cases hba : b = a
  · subst hba
    rw [va_up_self]
    exact he
  · rw [va_up_ne _ _ hba]
    exact (h b hb).kept (oq b hba)
theorem KK.moved {g : GG} {u U : State} (hvm : u.vm.Alike U.vm) (h : KK g u) : KK g U := va_K.moved hvm h
abbrev PreM (vs : List Value) (g : GG) (A : Nat → Prop) (M : MM) : Array Value → State → Prop := va_Pc vs (fun U => HD g A M U.heap ∧ KK g U)
abbrev BB (g : GG) (A : Nat → Prop) : MM → State → Prop := fun M' t => HD g A M' t.heap ∧ KK g t
abbrev PosI (post : Int32 → MM → Prop) (g : GG) (A : Nat → Prop) := va_Qi post (BB g A) A
abbrev PosV (post : MM → Prop) (g : GG) (A : Nat → Prop) := va_Qv post (BB g A) A
abbrev PosQ (post : Option Nat → MM → Prop) (g : GG) (A : Nat → Prop) := va_Qq post (BB g A) A
abbrev rmD (d : Nat) : Room := { frames := d, cells := 0, slots := 0, locals := 40 * d }
section ROWS
variable {p : Program} {l : Launch} {e : Env} {R : Room} {s : State} {m : MethodId} {args : Array Value} {below : List Frame} {meth : Method} {c : Code} {H H0 : Heap} {locs : List Loc} {cells slots : Nat} {Q : State → Prop} {cc : ByteArray} {pc : Nat} {ls : Array Slot} {rest : List Value} {g : GG} {A : Nat → Prop} {M : MM} {a : Nat}
theorem m_get (hx : p.tables.exec = Jvm.exec) (hb : c.code = cc) {own C : String} {T : u_T} {N ci index : Nat} {Ts : List Cond} (hts : ∀ w ∈ Ts, w.before args s = true) (hin : ∀ w ∈ u_ws C T N, w ∈ Ts) (hown : s.vm.findClass own = some m.cls) (hK : KK g s) (hM : HD g A M H) (hA : A a) {fs : List Value} (he : M a = .inr (ci, fs)) (hc : vwCl[ci]? = some (C, T, N)) (k : Nat) (hk : k < N) (hlink : (Cond.fieldLink own index (T k).1 (T k).2.1 (T k).2.2.1).before args s = true) {v : Value} (hv : fs[k]? = some v) (hdg : decode cc pc = .ok (.getfield index, 3))
    (kk : W p l e R s m args below meth c H locs cells slots Q (F0 m (pc + 3) ls (v :: rest))) : W p l e R s m args below meth c H locs cells slots Q (F0 m pc ls (.ref a :: rest)) :=
  va_get hx hb hts hin hown hK (hM.one hA) 0 (fs := fs) (by rw [he]; rfl) hc k hk hlink (fun _ h => h) hv hdg kk
theorem m_put (hx : p.tables.exec = Jvm.exec) (hb : c.code = cc) {own C : String} {T : u_T} {N ci index : Nat} {Ts : List Cond} (hts : ∀ w ∈ Ts, w.before args s = true) (hin : ∀ w ∈ u_ws C T N, w ∈ Ts) (ty0 : Nat → FieldType) (hty : ∀ k, k < N → parseFieldDescriptor (T k).2.2.1 = some (ty0 k)) (hnm : ∀ a, a < N → ∀ b, b < N → a ≠ b → (T a).2.1 ≠ (T b).2.1) (hown : s.vm.findClass own = some m.cls) (hK : KK g s) (hM : HD g A M H) (hS : va_S A H0 H locs) (hA : A a) {fs : List Value} (he : M a = .inr (ci, fs)) (hc : vwCl[ci]? = some (C, T, N)) (k : Nat) (hk : k < N) (hlink : (Cond.fieldLink own index (T k).1 (T k).2.1 (T k).2.2.1).before args s = true) (hfin : (T k).2.2.2 = false) {v : Value} (hn : narrow (ty0 k) v = v) (hfit : fits (ty0 k) v = true) (hl : k < fs.length) (hdg : decode cc pc = .ok (.putfield index, 3))
    (kk : ∀ (H1 : Heap) (locs1 : List Loc), HD g A (va_up M a (.inr (ci, fs.set k v))) H1 → va_S A H0 H1 locs1 → W p l e R s m args below meth c H1 locs1 cells slots Q (F0 m (pc + 3) ls rest)) : W p l e R s m args below meth c H locs cells slots Q (F0 m pc ls (v :: .ref a :: rest)) := by
  have hap := va_apart (own := own) hts hin ty0 hty hnm hK hc
  have h0 : va_at g.1 vwCl (a, .inr (ci, fs)) H := by rw [← he]; exact hM a hA
  obtain ⟨r, h1, cell, q1, q2, q3, q4⟩ := h0
  have hr : r = (C, T, N) := Option.some.inj (h1.symm.trans hc)
  subst hr
  obtain ⟨hSl, hfc, kC, hkC, hkind⟩ := hK.1 ci _ hc
  obtain ⟨cf, kf, fi, f, hi, hsl⟩ := hSl k hk
  have hlay := hts _ (hin _ (u_in_lay hk))
  unfold u_lay at hlay
  rw [if_neg (by rw [hfin]; decide)] at hlay
  have hst := (u_facts hfc hkC (u_lays hts hin hk) hi).1
  have h6 := u_store hfc hkC hkind hlay hi (hty k hk) hn hfit
  refine W.putK hx hb (f := f) ⟨hown, hlink, ⟨_, _, _, hi⟩, hst⟩ (by rw [q2]; exact h6) q1 q3 (by rw [hsl]; exact k2_hasslot (q4 k hk)) rfl rfl hdg fun H' e1 e2 e3 => ?_
  rw [hsl] at e1 ⊢
  exact kk H' _ (hM.put ⟨_, hc, t_OB.to (V := updV (vp_V fs) k v) ⟨_, e1, q2, q3, t_set q4 hap hk v⟩ (fun j _ => vp_updV_set hl v j)⟩ e3) (hS.put e2 e3 hA)
theorem m_cald (hx : p.tables.exec = Jvm.exec) (hb : c.code = cc) (hK : KK g s) (hM : HD g A M H) (hA : A a) {n : Nat} {f : Nat → Int32} (he : M a = .inl (g.2 0, n, .inl f)) {i : Int32} (hin : vp_in i n) (hdg : decode cc pc = .ok (.caload, 1))
    (kk : W p l e R s m args below meth c H locs cells slots Q (F0 m (pc + 1) ls (.int (f i.toNatClampNeg) :: rest))) : W p l e R s m args below meth c H locs cells slots Q (F0 m pc ls (.int i :: .ref a :: rest)) :=
  va_cald hx hb hK (hM.one hA) 0 0 (cA := g.2 0) (n := n) (f := f) (by rw [he]; rfl) rfl hin hdg kk
theorem m_zald (hx : p.tables.exec = Jvm.exec) (hb : c.code = cc) (hK : KK g s) (hM : HD g A M H) (hA : A a) {n : Nat} {f : Nat → Int32} (he : M a = .inl (g.2 2, n, .inl f)) {i : Int32} (hin : vp_in i n) (hdg : decode cc pc = .ok (.baload, 1))
    (kk : W p l e R s m args below meth c H locs cells slots Q (F0 m (pc + 1) ls (.int (f i.toNatClampNeg) :: rest))) : W p l e R s m args below meth c H locs cells slots Q (F0 m pc ls (.int i :: .ref a :: rest)) :=
  va_zald hx hb hK (hM.one hA) 0 2 (cA := g.2 2) (n := n) (f := f) (by rw [he]; rfl) rfl hin hdg kk
theorem m_aald (hx : p.tables.exec = Jvm.exec) (hb : c.code = cc) (hK : KK g s) (hM : HD g A M H) (hA : A a) (t0 : Nat) {cA : ClassId} {C : String} {n : Nat} {f : Nat → Option Nat} (he : M a = .inl (cA, n, .inr (.inr (.inr (.inr f))))) (ht : (tysOf g)[t0]? = some (cA, .object C)) {i : Int32} (hin : vp_in i n) {r : Value} (hr : va_rf (f i.toNatClampNeg) = r) (hdg : decode cc pc = .ok (.aaload, 1))
    (kk : W p l e R s m args below meth c H locs cells slots Q (F0 m (pc + 1) ls (r :: rest))) : W p l e R s m args below meth c H locs cells slots Q (F0 m pc ls (.int i :: .ref a :: rest)) := by
  subst hr
  exact va_aldq hx hb hK (hM.one hA) 0 t0 (cA := cA) (n := n) (f := f) (C := C) (by rw [he]; rfl) ht hin hdg kk
theorem m_alen (hx : p.tables.exec = Jvm.exec) (hb : c.code = cc) (hK : KK g s) (hM : HD g A M H) (hA : A a) (t0 : Nat) {cA : ClassId} {x : vp_A} {ty : FieldType} (he : M a = .inl (cA, x)) (ht : (tysOf g)[t0]? = some (cA, ty)) {v : Int32} (hv : Int32.ofNat x.1 = v) (hdg : decode cc pc = .ok (.arraylength, 1))
    (kk : W p l e R s m args below meth c H locs cells slots Q (F0 m (pc + 1) ls (.int v :: rest))) : W p l e R s m args below meth c H locs cells slots Q (F0 m pc ls (.ref a :: rest)) :=
  va_alen hx hb hK (hM.one hA) 0 t0 (cA := cA) (x := x) (by rw [he]; rfl) ht hv hdg kk
theorem m_zast (hx : p.tables.exec = Jvm.exec) (hb : c.code = cc) (hK : KK g s) (hM : HD g A M H) (hS : va_S A H0 H locs) (hA : A a) {n : Nat} {f : Nat → Int32} (he : M a = .inl (g.2 2, n, .inl f)) {i x : Int32} (hin : vp_in i n) (hdg : decode cc pc = .ok (.bastore, 1))
    (kk : ∀ (H1 : Heap) (locs1 : List Loc), HD g A (va_up M a (.inl (g.2 2, n, .inl (upd f i.toNatClampNeg (vp_nar .boolean x))))) H1 → va_S A H0 H1 locs1 → W p l e R s m args below meth c H1 locs1 cells slots Q (F0 m (pc + 1) ls rest)) : W p l e R s m args below meth c H locs cells slots Q (F0 m pc ls (.int x :: .int i :: .ref a :: rest)) := by
  have h0 : H[a]? = some (vp_cell (g.2 2) (n, .inl f)) := by
    have := hM a hA
    rw [he] at this
    exact this
  refine W.zast hx hb h0 ((hK.2 2 _ rfl).1 n (fun j => .int (f j))) (fun q => by cases q) (by show ¬ (i < 0 ∨ (arrV _ _ _).slots.size ≤ _); rw [arrV_size]; exact hin) rfl rfl hdg fun H1 e1 z oq => ?_
  refine kk H1 _ (hM.put ?_ oq) (hS.put z oq hA)
  show H1[a]? = some (vp_cell _ _)
  rw [e1]
  rw [vp_cell_i, vp_cell_i, arrV_store]
  congr 2
  funext q
  by_cases hq : q = i.toNatClampNeg
  · subst hq
    simp [updV, upd, vp_nar]
    try rfl
  · simp [updV, upd, hq]
theorem m_cast (hx : p.tables.exec = Jvm.exec) (hb : c.code = cc) (hK : KK g s) (hM : HD g A M H) (hS : va_S A H0 H locs) (hA : A a) {n : Nat} {f : Nat → Int32} (he : M a = .inl (g.2 0, n, .inl f)) {i x : Int32} (hin : vp_in i n) (hdg : decode cc pc = .ok (.castore, 1))
    (kk : ∀ (H1 : Heap) (locs1 : List Loc), HD g A (va_up M a (.inl (g.2 0, n, .inl (upd f i.toNatClampNeg (vp_nar .char x))))) H1 → va_S A H0 H1 locs1 → W p l e R s m args below meth c H1 locs1 cells slots Q (F0 m (pc + 1) ls rest)) : W p l e R s m args below meth c H locs cells slots Q (F0 m pc ls (.int x :: .int i :: .ref a :: rest)) := by
  have h0 : H[a]? = some (vp_cell (g.2 0) (n, .inl f)) := by
    have := hM a hA
    rw [he] at this
    exact this
  refine W.cast hx hb h0 ((hK.2 0 _ rfl).1 n (fun j => .int (f j))) (fun q => by cases q) (by show ¬ (i < 0 ∨ (arrV _ _ _).slots.size ≤ _); rw [arrV_size]; exact hin) rfl rfl hdg fun H1 e1 z oq => ?_
  refine kk H1 _ (hM.put ?_ oq) (hS.put z oq hA)
  show H1[a]? = some (vp_cell _ _)
  rw [e1]
  rw [vp_cell_i, vp_cell_i, arrV_store]
  congr 2
  funext q
  by_cases hq : q = i.toNatClampNeg
  · subst hq
    simp [updV, upd, vp_nar]
    try rfl
  · simp [updV, upd, hq]
theorem m_aast (hx : p.tables.exec = Jvm.exec) (hb : c.code = cc) (hK : KK g s) (hM : HD g A M H) (hS : va_S A H0 H locs) (hA : A a) (t0 ci : Nat) {cA : ClassId} {r : vw_C} {n v : Nat} {vs : List Value} {f : Nat → Option Nat} (he : M a = .inl (cA, n, .inr (.inr (.inr (.inr f))))) (ht : (tysOf g)[t0]? = some (cA, .object r.1)) (hAv : A v) (hv : M v = .inr (ci, vs)) (hc : vwCl[ci]? = some r) {i : Int32} (hin : vp_in i n) (hdg : decode cc pc = .ok (.aastore, 1))
    (kk : ∀ (H1 : Heap) (locs1 : List Loc), HD g A (va_up M a (.inl (cA, n, .inr (.inr (.inr (.inr (va_up f i.toNatClampNeg (some v)))))))) H1 → va_S A H0 H1 locs1 → W p l e R s m args below meth c H1 locs1 cells slots Q (F0 m (pc + 1) ls rest)) : W p l e R s m args below meth c H locs cells slots Q (F0 m pc ls (.ref v :: .int i :: .ref a :: rest)) := by
  have hlt : i.toNatClampNeg < n := Nat.not_le.mp fun q => hin (Or.inr q)
  have h0 : ¬ i < 0 := fun q => hin (Or.inl q)
  have ha : H[a]? = some (vp_cell cA (n, .inr (.inr (.inr (.inr f))))) := by
    have := hM a hA
    rw [he] at this
    exact this
  have hva : va_at g.1 vwCl (v, .inr (ci, vs)) H := by rw [← hv]; exact hM v hAv
  obtain ⟨r', hr', cellV, g1, g2, g3, -⟩ := hva
  have hcls := (hK.1 ci r hc).2
  obtain ⟨kA, comp, k1, k2, k3, -⟩ := (hK.2 t0 _ ht).2
  have hcomp : comp = g.1.1 ci := Option.some.inj (k3.symm.trans hcls.1)
  subst hcomp
  obtain ⟨kC, hkC, -⟩ := hcls.2
  refine W.aast hx hb ha (fun q h => by cases h) (fun h => by cases h) k1 k2 rfl hkC ⟨h0, by show _ < (arrV _ _ _).slots.size; rw [arrV_size]; exact hlt⟩ g1 (fun q h => by rw [g3] at h; cases h) (by rw [g2]; exact hkC) (by rw [g2]; exact va_assign hcls) rfl rfl hdg fun H1 e1 z oq => ?_
  refine kk H1 _ (hM.put ?_ oq) (hS.put z oq hA)
  show H1[a]? = some (vp_cell _ _)
  rw [e1]
  rw [vp_cell_q, vp_cell_q, arrV_store]
  congr 2
  funext q
  by_cases hq : q = i.toNatClampNeg
  · subst hq
    simp [updV, va_up, va_rf]
  · simp [updV, va_up, hq]
/-! the ends of a method -/
theorem m_iret {post : Int32 → MM → Prop} {v : Int32} (hx : p.tables.exec = Jvm.exec) (hb : c.code = cc) (hr : meth.sig.returnType = some .int) (hlk : meth.locks = false) (hK : KK g s) (hM : HD g A M H) (hS : va_S A s.heap H locs) (hdg : decode cc pc = .ok (.ireturn, 1)) (hp : post v M) : W p l e R s m args below meth c H locs cells slots (MQ below (PosI post g A) args s cells slots A) (F0 m pc ls [.int v]) :=
  W.iret hx hb hr (fun t ht hW => ⟨⟨v, M, rfl, hp, by rw [ht]; exact hM, KK.moved hW.alike hK⟩, hS.F ht⟩) hS.2.2 hdg hlk
theorem m_zret {post : Int32 → MM → Prop} {v : Int32} {ty : FieldType} (hx : p.tables.exec = Jvm.exec) (hb : c.code = cc) (hr : meth.sig.returnType = some ty) (hn : narrow ty (.int v) = .int v) (hlk : meth.locks = false) (hK : KK g s) (hM : HD g A M H) (hS : va_S A s.heap H locs) (hdg : decode cc pc = .ok (.ireturn, 1)) (hp : post v M) : W p l e R s m args below meth c H locs cells slots (MQ below (PosI post g A) args s cells slots A) (F0 m pc ls [.int v]) :=
  W.zret hx hb hr hn (fun t ht hW => ⟨⟨v, M, rfl, hp, by rw [ht]; exact hM, KK.moved hW.alike hK⟩, hS.F ht⟩) hS.2.2 hdg hlk
theorem m_vret {post : MM → Prop} (hx : p.tables.exec = Jvm.exec) (hb : c.code = cc) (hr : meth.sig.returnType = none) (hlk : meth.locks = false) (hK : KK g s) (hM : HD g A M H) (hS : va_S A s.heap H locs) (hdg : decode cc pc = .ok (.return_, 1)) (hp : post M) : W p l e R s m args below meth c H locs cells slots (MQ below (PosV post g A) args s cells slots A) (F0 m pc ls []) :=
  W.vret hx hb hr (fun t ht hW => ⟨⟨M, rfl, hp, by rw [ht]; exact hM, KK.moved hW.alike hK⟩, hS.F ht⟩) hS.2.2 hdg hlk
theorem m_aret {post : Option Nat → MM → Prop} {r : Option Nat} {v : Value} {n : String} (hv : v = va_rf r) (hx : p.tables.exec = Jvm.exec) (hb : c.code = cc) (hr : meth.sig.returnType = some (.object n)) (hlk : meth.locks = false) (hK : KK g s) (hM : HD g A M H) (hS : va_S A s.heap H locs) (hdg : decode cc pc = .ok (.areturn, 1)) (hp : post r M) : W p l e R s m args below meth c H locs cells slots (MQ below (PosQ post g A) args s cells slots A) (F0 m pc ls [v]) := by
  subst hv
  exact W.aret hx hb hr (Or.inl ⟨n, rfl⟩) (va_rf_or r) (fun t ht hW => ⟨⟨r, M, rfl, hp, by rw [ht]; exact hM, KK.moved hW.alike hK⟩, hS.F ht⟩) hS.2.2 hdg hlk
/-! calls -/
variable {y : MethodName} {bytes : ByteArray} {maxL nL n index ci : Nat} {ret : Option FieldType} {ws : List Cond} {rm : Room} {Ts : List Cond} {own C : String} {As : List Value} {st0 : List Value}
theorem preM_blind {vs : List Value} : FrameBlind (PreM vs g A M) := fun a U f mk q => ⟨q.1, q.2.1, KK.moved (u := U) (U := U.calling f mk a) (Vm.Alike.refl U.vm) q.2.2⟩
theorem m_recv (hK : KK g s) (hM : HD g A M H) (hA : A a) {fs : List Value} {q : vw_C} (he : M a = .inr (ci, fs)) (hc : vwCl[ci]? = some q) : ∃ cell : Cell, H[a]? = some cell ∧ cell.vm.isStatics = false ∧ s.vm.findClass q.1 = some cell.cls :=
  va_recv hK (hM.one hA) hc (q0 := 0) (fs := fs) (by rw [he]; rfl)
theorem m_callI {post : Int32 → MM → Prop} (S : CallFix p m c cc nL s args Ts own) (hMet : Met l y ws rm (PreM (.ref a :: As) g A M) (PosI post g A) 0 0 A) (cw : CallW R s args own C index y bytes maxL ret ws rm 0 0 n) (hK : KK g s) (hM : HD g A M H) (hS : va_S A H0 H locs) (hrc : ∃ cell : Cell, H[a]? = some cell ∧ cell.vm.isStatics = false ∧ s.vm.findClass C = some cell.cls) (hn : As.length = n) (hsz : ls.size = nL) (hst : st0 = As.reverse ++ .ref a :: rest) (hW : (rest.map fun v => v.category).sum ≤ 8) (hdg : decode cc pc = .ok (.invokevirtual index, 3)) (hf : cells ≤ R.cells ∧ slots ≤ R.slots)
    (kk : ∀ (r : Int32) (M1 : MM) (H1 : Heap) (locs1 : List Loc), post r M1 → HD g A M1 H1 → va_S A H0 H1 locs1 → W p l e R s m args below meth c H1 locs1 cells slots Q (F0 m (pc + 3) ls (.int r :: rest))) : W p l e R s m args below meth c H locs cells slots Q (F0 m pc ls st0) :=
  va_calli (va_runV (As := As) (rest := rest) S hMet cw ⟨preM_blind, hrc, fun U hU hWU => ⟨rfl, by rw [hU]; exact hM, KK.moved hWU.alike hK⟩⟩ rfl hn hsz hst (lv_room (pc := pc) (ls := ls) (rest := st0) (m := m) hW) hdg hf) hS (fun _ _ h => h) (fun _ h => h)
    (fun r u t H1 locs1 ht _ hp hB _ _ hS1 => kk r u H1 locs1 hp (by rw [← ht]; exact hB.1) hS1)
theorem m_callV {post : MM → Prop} (S : CallFix p m c cc nL s args Ts own) (hMet : Met l y ws rm (PreM (.ref a :: As) g A M) (PosV post g A) 0 0 A) (cw : CallW R s args own C index y bytes maxL ret ws rm 0 0 n) (hK : KK g s) (hM : HD g A M H) (hS : va_S A H0 H locs) (hrc : ∃ cell : Cell, H[a]? = some cell ∧ cell.vm.isStatics = false ∧ s.vm.findClass C = some cell.cls) (hn : As.length = n) (hsz : ls.size = nL) (hst : st0 = As.reverse ++ .ref a :: rest) (hW : (rest.map fun v => v.category).sum ≤ 8) (hdg : decode cc pc = .ok (.invokevirtual index, 3)) (hf : cells ≤ R.cells ∧ slots ≤ R.slots)
    (kk : ∀ (M1 : MM) (H1 : Heap) (locs1 : List Loc), post M1 → HD g A M1 H1 → va_S A H0 H1 locs1 → W p l e R s m args below meth c H1 locs1 cells slots Q (F0 m (pc + 3) ls rest)) : W p l e R s m args below meth c H locs cells slots Q (F0 m pc ls st0) :=
  va_callv (va_runV (As := As) (rest := rest) S hMet cw ⟨preM_blind, hrc, fun U hU hWU => ⟨rfl, by rw [hU]; exact hM, KK.moved hWU.alike hK⟩⟩ rfl hn hsz hst (lv_room (pc := pc) (ls := ls) (rest := st0) (m := m) hW) hdg hf) hS (fun _ _ h => h) (fun _ h => h)
    (fun u t H1 locs1 ht _ hp hB _ _ hS1 => kk u H1 locs1 hp (by rw [← ht]; exact hB.1) hS1)
theorem m_callQ {post : Option Nat → MM → Prop} (S : CallFix p m c cc nL s args Ts own) (hMet : Met l y ws rm (PreM (.ref a :: As) g A M) (PosQ post g A) 0 0 A) (cw : CallW R s args own C index y bytes maxL ret ws rm 0 0 n) (hK : KK g s) (hM : HD g A M H) (hS : va_S A H0 H locs) (hrc : ∃ cell : Cell, H[a]? = some cell ∧ cell.vm.isStatics = false ∧ s.vm.findClass C = some cell.cls) (hn : As.length = n) (hsz : ls.size = nL) (hst : st0 = As.reverse ++ .ref a :: rest) (hW : (rest.map fun v => v.category).sum ≤ 8) (hdg : decode cc pc = .ok (.invokevirtual index, 3)) (hf : cells ≤ R.cells ∧ slots ≤ R.slots)
    (kk : ∀ (r : Option Nat) (M1 : MM) (H1 : Heap) (locs1 : List Loc), post r M1 → HD g A M1 H1 → va_S A H0 H1 locs1 → W p l e R s m args below meth c H1 locs1 cells slots Q (F0 m (pc + 3) ls (va_rf r :: rest))) : W p l e R s m args below meth c H locs cells slots Q (F0 m pc ls st0) :=
  va_callq (va_runV (As := As) (rest := rest) S hMet cw ⟨preM_blind, hrc, fun U hU hWU => ⟨rfl, by rw [hU]; exact hM, KK.moved hWU.alike hK⟩⟩ rfl hn hsz hst (lv_room (pc := pc) (ls := ls) (rest := st0) (m := m) hW) hdg hf) hS (fun _ _ h => h) (fun _ h => h)
    (fun r u t H1 locs1 ht _ hp hB _ _ hS1 => kk r u H1 locs1 hp (by rw [← ht]; exact hB.1) hS1)
theorem m_callSI {post : Int32 → MM → Prop} (S : CallFix p m c cc nL s args Ts own) (hMet : Met l y ws rm (PreM As g A M) (PosI post g A) 0 0 A) (cw : CallB R s args own index y bytes maxL ret ws rm 0 0 n ∧ (Cond.static y).before args s = true) (hK : KK g s) (hM : HD g A M H) (hS : va_S A H0 H locs) (hn : As.length = n) (hsz : ls.size = nL) (hst : st0 = As.reverse ++ rest) (hW : (rest.map fun v => v.category).sum ≤ 8) (hdg : decode cc pc = .ok (.invokestatic index, 3)) (hf : cells ≤ R.cells ∧ slots ≤ R.slots)
    (kk : ∀ (r : Int32) (M1 : MM) (H1 : Heap) (locs1 : List Loc), post r M1 → HD g A M1 H1 → va_S A H0 H1 locs1 → W p l e R s m args below meth c H1 locs1 cells slots Q (F0 m (pc + 3) ls (.int r :: rest))) : W p l e R s m args below meth c H locs cells slots Q (F0 m pc ls st0) :=
  va_calli (va_runS (As := As) (rest := rest) S hMet cw ⟨preM_blind, fun U hU hWU => ⟨rfl, by rw [hU]; exact hM, KK.moved hWU.alike hK⟩⟩ rfl hn hsz hst (lv_room (pc := pc) (ls := ls) (rest := st0) (m := m) hW) hdg hf) hS (fun _ _ h => h) (fun _ h => h)
    (fun r u t H1 locs1 ht _ hp hB _ _ hS1 => kk r u H1 locs1 hp (by rw [← ht]; exact hB.1) hS1)
end ROWS
/-- a method by its walk -/
theorem mk_Met {l : Launch} {y : MethodName} {ws ws' : List Cond} {rm : Room} {cc : ByteArray} {maxL : Nat} {ret : Option FieldType} {g : GG} {A : Nat → Prop} {M : MM} {vs : List Value} {Qc : Array Value → State → Outcome → State → Prop} {mc ms : Nat} {own : String} (hw : ws = Cond.code y cc maxL ret :: ws') (hy : y.cls = own) (hpl : plainName own = true) (hlen : (lg_sl vs).length ≤ maxL)
    (body : ∀ (p : Program) (e : Env) (s : State) (m : MethodId) (below : List Frame) (meth : Method) (c : Code) (ls : Array Slot) (aa : Array Value) (Q : State → Prop), aa = vs.toArray → Q = MQ below Qc aa s mc ms A → p.tables.exec = Jvm.exec → c.code = cc → meth.sig.returnType = ret → meth.locks = false → c.maxLocals = maxL → s.vm.findClass own = some m.cls → (∀ w ∈ ws, w.before aa s = true) → KK g s → HD g A M s.heap → va_S A s.heap s.heap [] → lv_has ls maxL (lv_args 0 vs) → meth.name = y.name →
      W p l e rm s m aa below meth c s.heap [] 0 0 Q (F0 m 0 ls [])) : Met l y ws rm (PreM vs g A M) Qc mc ms A := by
  subst hy
  refine Met.ofW (cc := cc) (maxL := maxL) (ret := ret) hpl hw ?_
  intro p e s m args below meth c s₁ B hml hv
  obtain ⟨rfl, hM, hK⟩ := hv
  have hl := lv_entry vs (n := maxL) hlen
  have hts := atoms_spec (ws := ws) B.pre
  rw [lg_entry_eq]
  exact body p e s m below meth c _ _ _ rfl rfl B.exec B.bytes B.returns B.notSynchronized hml (findClass_of_methodNamed B.named) hts hK hM va_S.rf hl (name_of_methodNamed B.named B.method).1

