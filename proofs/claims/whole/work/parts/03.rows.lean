abbrev Mm : Type := Nat → Option va_E
abbrev zG : Type := va_G × (Nat → ClassId)
abbrev zTy (G : zG) : List (ClassId × FieldType) := [(G.2 0, .int), (G.2 1, .object RX3), (G.2 2, .object RX4), (G.2 3, .boolean), (G.2 4, .char)]
def zK (G : zG) (U : State) : Prop := va_K G.1 vwCl (zTy G) U ∧ va_AO RX3 U ∧ va_AO RX4 U ∧ va_Nw (.methodLinkNest RX2 17 yX0_init RX5) U ∧ va_Nw (.methodLinkNest RX0 21 yX5_isWithin RX5) U ∧ va_Nw (.methodLinkNest RX0 36 yX5_isCell RX5) U ∧ va_Nw (.methodLinkNest RX0 40 yX5_cellAt RX5) U
theorem zK.warm {G : zG} {s U : State} (hW : s.WarmedH U.vm) (h : zK G s) : zK G U :=
  ⟨va_K.moved hW.alike h.1, va_AO.moved hW.alike h.2.1, va_AO.moved hW.alike h.2.2.1, va_Nw.warmM hW h.2.2.2.1, va_Nw.warmM hW h.2.2.2.2.1, va_Nw.warmM hW h.2.2.2.2.2.1, va_Nw.warmM hW h.2.2.2.2.2.2⟩
/-- the heap holds what the map says -/
def zH (G : zG) (M : Mm) (H : Heap) : Prop := ∀ (a : Nat) (e : va_E), M a = some e → va_at G.1 vwCl (a, e) H
def zset (M : Mm) (a : Nat) (e : va_E) : Mm := fun q => if q = a then some e else M q
theorem zset_self (M : Mm) (a : Nat) (e : va_E) : zset M a e a = some e := by simp [zset]
theorem zset_ne (M : Mm) (a : Nat) (e : va_E) : ∀ q : Nat, q ≠ a → zset M a e q = M q := fun q h => by simp [zset, h]
theorem zH.set {G : zG} {M : Mm} {H H1 : Heap} {a : Nat} {e : va_E} (h : zH G M H) (he : va_at G.1 vwCl (a, e) H1) (oq : ∀ q : Nat, q ≠ a → H1[q]? = H[q]?) : zH G (zset M a e) H1 := by
  intro b e' hb
  by_cases hba : b = a
  · subst hba
    rw [zset_self] at hb
    cases hb
    exact he
  · rw [zset_ne _ _ _ _ hba] at hb
    exact (h b e' hb).kept (oq b hba)
theorem zH.one {G : zG} {M : Mm} {H : Heap} {a : Nat} {e : va_E} (h : zH G M H) (hM : M a = some e) : va_P G.1 vwCl [(a, e)] H := by
  intro k q hk
  have hz : k < 1 := (List.getElem?_eq_some_iff.mp hk).1
  rw [show k = 0 by omega] at hk
  cases hk
  exact h a e hM
/-- written so far: from B0 on, and n cells made -/
def zS (n B0 : Nat) (H0 H : Heap) (locs : List Loc) : Prop := va_S (fun q => B0 ≤ q) H0 H locs ∧ H.size = H0.size + n
theorem zS.rf {B0 : Nat} {H : Heap} : zS 0 B0 H H [] := ⟨va_S.rf, rfl⟩
theorem zS.put {n B0 : Nat} {H0 H H1 : Heap} {locs : List Loc} {a k : Nat} (h : zS n B0 H0 H locs) (z : H1.size = H.size) (oq : ∀ q : Nat, q ≠ a → H1[q]? = H[q]?) (ha : B0 ≤ a) : zS n B0 H0 H1 (locs ++ [⟨a, k⟩]) := ⟨h.1.put z oq ha, z.trans h.2⟩
def zR (k mc ms : Nat) : Room := { frames := k, cells := mc, slots := ms, locals := 32 * k }
def zP (G : zG) (M : Mm) (sz : Nat) (av : List Value) : Array Value → State → Prop := fun v U => v = av.toArray ∧ zH G M U.heap ∧ zK G U ∧ U.heap.size = sz
def zQ (G : zG) (B0 sz n : Nat) (v : Option Value) (post : Mm → Prop) : Array Value → State → Outcome → State → Prop := fun _ st o t =>
  o = .returned v ∧ (∃ M1, zH G M1 t.heap ∧ post M1) ∧ t.heap.size = sz + n ∧ ∀ q : Nat, q < st.heap.size → q < B0 → t.heap[q]? = st.heap[q]?
/-- a method's contract: from a heap that the map M tells, with these arguments, it returns v, and the heap is told by a map with post -/
def zMet (l : Launch) (y : MethodName) (cc : ByteArray) (nL : Nat) (ret : Option FieldType) (k mc ms : Nat) (G : zG) (B0 : Nat) (M : Mm) (av : List Value) (v : Option Value) (post : Mm → Prop) : Prop :=
  ∀ sz : Nat, B0 ≤ sz → Met l y (Tw y cc nL ret) (zR k mc ms) (zP G M sz av) (zQ G B0 sz mc v post) mc ms (fun q => B0 ≤ q)
def zE (p : Program) (s : State) (m : MethodId) (args : Array Value) (meth : Method) (c : Code) (G : zG) (own : String) (cc : ByteArray) (nL : Nat) (ret : Option FieldType) : Prop :=
  p.tables.exec = Jvm.exec ∧ c.code = cc ∧ c.maxLocals = nL ∧ s.vm.findClass own = some m.cls ∧ (∀ w ∈ Tb, w.before args s = true) ∧ meth.sig.returnType = ret ∧ meth.locks = false ∧ zK G s
theorem zP.blind {G : zG} {M : Mm} {sz : Nat} {av : List Value} : FrameBlind (zP G M sz av) := fun a U g mk q => ⟨q.1, q.2.1, zK.warm (s := U) (U := U.calling g mk a) (State.WarmedH.refl U) q.2.2.1, q.2.2.2⟩
theorem z_met {l : Launch} {y : MethodName} {cc : ByteArray} {nL : Nat} {ret : Option FieldType} {k mc ms : Nat} {G : zG} {B0 : Nat} {M : Mm} {av : List Value} {v : Option Value} {post : Mm → Prop} (own : String) (lv : List (Nat × Value)) (hy : plainName y.cls = true) (ho : y.cls = own) (hn : (lg_sl av).length ≤ nL) (hlv : lv_args 0 av = lv)
    (body : ∀ (p : Program) (e : Env) (s : State) (m : MethodId) (below : List Frame) (meth : Method) (c : Code) (ls : Array Slot), zE p s m av.toArray meth c G own cc nL ret → meth.name = y.name → B0 ≤ s.heap.size → zH G M s.heap → lv_has ls nL lv →
      W p l e (zR k mc ms) s m av.toArray below meth c s.heap [] 0 0 (MQ below (zQ G B0 s.heap.size mc v post) av.toArray s mc ms (fun q => B0 ≤ q)) (F0 m 0 ls [])) : zMet l y cc nL ret k mc ms G B0 M av v post := by
  intro sz hsz
  refine Met.ofW (cc := cc) (maxL := nL) (ret := ret) hy rfl ?_
  intro p e s m args below meth c s₁ B hml hv
  obtain ⟨rfl, hH, hK, hz⟩ := hv
  subst hz
  rw [lg_entry_eq]
  have hts := atoms_spec (ws := Tw y cc nL ret) B.pre
  exact body p e s m below meth c _ ⟨B.exec, B.bytes, hml, ho ▸ findClass_of_methodNamed B.named, fun w hw => hts w (List.mem_cons_of_mem _ hw), B.returns, B.notSynchronized, hK⟩ (name_of_methodNamed B.named B.method).1 hsz hH (hlv ▸ lv_entry av hn)
def zb (b : Bool) : Int32 := if b then 1 else 0
theorem zb_narrow (b : Bool) : narrow .boolean (.int (zb b)) = .int (zb b) := by cases b <;> rfl
section ZR
variable {p : Program} {l : Launch} {e : Env} {R : Room} {s : State} {m : MethodId} {args : Array Value} {below : List Frame} {meth : Method} {c : Code} {H : Heap} {locs : List Loc} {cells slots : Nat} {Q : State → Prop}
variable {cc : ByteArray} {pc nL : Nat} {ls : Array Slot} {rest : List Value} {G : zG} {M : Mm} {a n B0 : Nat} {H0 : Heap} {own : String} {ret : Option FieldType}
theorem zQ.of {v : Option Value} {post : Mm → Prop} (hH : zH G M H) (hS : zS n B0 s.heap H locs) (hp : post M) : ∀ t : State, t.heap = H → s.WarmedH t.vm → zQ G B0 s.heap.size n v post args s (.returned v) t := by
  intro t ht _
  refine ⟨rfl, ⟨M, by rw [ht]; exact hH, hp⟩, by rw [ht]; exact hS.2, fun q h1 h2 => ?_⟩
  rw [ht]
  exact hS.1.2.1 q h1 (Nat.not_le.mpr h2)
theorem z_iret {mc ms : Nat} {post : Mm → Prop} {r r0 : Int32} (hE : zE p s m args meth c G own cc nL (some .int)) (hH : zH G M H) (hS : zS mc B0 s.heap H locs) (hv : r = r0) (hp : post M) (hdg : decode cc pc = .ok (.ireturn, 1)) :
    W p l e R s m args below meth c H locs mc ms (MQ below (zQ G B0 s.heap.size mc (some (.int r0)) post) args s mc ms (fun q => B0 ≤ q)) (F0 m pc ls [.int r]) := by
  subst hv
  have hlocks := hE.2.2.2.2.2.2.1
  exact W.iret (v := r) hE.1 hE.2.1 hE.2.2.2.2.2.1 (zQ.of hH hS hp) hS.1.2.2 hdg
theorem z_zret {mc ms : Nat} {post : Mm → Prop} {r : Int32} {b : Bool} (hE : zE p s m args meth c G own cc nL (some .boolean)) (hH : zH G M H) (hS : zS mc B0 s.heap H locs) (hv : r = zb b) (hp : post M) (hdg : decode cc pc = .ok (.ireturn, 1)) :
    W p l e R s m args below meth c H locs mc ms (MQ below (zQ G B0 s.heap.size mc (some (.int (zb b))) post) args s mc ms (fun q => B0 ≤ q)) (F0 m pc ls [.int r]) := by
  subst hv
  have hlocks := hE.2.2.2.2.2.2.1
  exact W.zret (v := zb b) (ty := .boolean) hE.1 hE.2.1 hE.2.2.2.2.2.1 (zb_narrow b) (zQ.of hH hS hp) hS.1.2.2 hdg
theorem z_vret {mc ms : Nat} {post : Mm → Prop} (hE : zE p s m args meth c G own cc nL none) (hH : zH G M H) (hS : zS mc B0 s.heap H locs) (hp : post M) (hdg : decode cc pc = .ok (.return_, 1)) :
    W p l e R s m args below meth c H locs mc ms (MQ below (zQ G B0 s.heap.size mc none post) args s mc ms (fun q => B0 ≤ q)) (F0 m pc ls []) := by
  have hlocks := hE.2.2.2.2.2.2.1
  exact W.vret hE.1 hE.2.1 hE.2.2.2.2.2.1 (zQ.of hH hS hp) hS.1.2.2 hdg
theorem z_get (hE : zE p s m args meth c G own cc nL ret) (hH : zH G M H) {ci : Nat} {fs : List Value} (hM : M a = some (.inr (ci, fs))) {C : String} {T : u_T} {N index : Nat} (hc : vwCl[ci]? = some (C, T, N)) (hin : ∀ w ∈ u_ws C T N, w ∈ Tb) (k : Nat) (hk : k < N) (hlink : Cond.fieldLink own index (T k).1 (T k).2.1 (T k).2.2.1 ∈ Tb) {v : Value} (hv : fs[k]? = some v) (hdg : decode cc pc = .ok (.getfield index, 3))
    (kk : W p l e R s m args below meth c H locs cells slots Q (F0 m (pc + 3) ls (v :: rest))) : W p l e R s m args below meth c H locs cells slots Q (F0 m pc ls (.ref a :: rest)) :=
  va_get (D := G.1) (cl := vwCl) (ci := ci) (Ts := Tb) hE.1 hE.2.1 hE.2.2.2.2.1 hin hE.2.2.2.1 hE.2.2.2.2.2.2.2.1 (hH.one hM) 0 rfl hc k hk (hE.2.2.2.2.1 _ hlink) (fun _ h => h) hv hdg kk
theorem z_put (hE : zE p s m args meth c G own cc nL ret) (hH : zH G M H) (hS0 : zS n B0 H0 H locs) {ci : Nat} {fs : List Value} (hM : M a = some (.inr (ci, fs))) {C : String} {T : u_T} {N index : Nat} (hc : vwCl[ci]? = some (C, T, N)) (hin : ∀ w ∈ u_ws C T N, w ∈ Tb) (ty0 : Nat → FieldType) (hty : ∀ k, k < N → parseFieldDescriptor (T k).2.2.1 = some (ty0 k)) (hnm : ∀ a, a < N → ∀ b, b < N → a ≠ b → (T a).2.1 ≠ (T b).2.1) (k : Nat) (hk : k < N) (hlink : Cond.fieldLink own index (T k).1 (T k).2.1 (T k).2.2.1 ∈ Tb) (hfin : (T k).2.2.2 = false) {v : Value} (hn : narrow (ty0 k) v = v) (hfit : fits (ty0 k) v = true) (hl : k < fs.length) (hB : B0 ≤ a) (hdg : decode cc pc = .ok (.putfield index, 3))
    (kk : ∀ (H1 : Heap) (locs1 : List Loc) (M1 : Mm), zH G M1 H1 → zS n B0 H0 H1 locs1 → M1 a = some (.inr (ci, fs.set k v)) → (∀ q : Nat, q ≠ a → M1 q = M q) → W p l e R s m args below meth c H1 locs1 cells slots Q (F0 m (pc + 3) ls rest)) : W p l e R s m args below meth c H locs cells slots Q (F0 m pc ls (v :: .ref a :: rest)) := by
  have hts := hE.2.2.2.2.1
  have hK := hE.2.2.2.2.2.2.2.1
  have hap := va_apart (own := own) hts hin ty0 hty hnm hK hc
  obtain ⟨r, h1, cell, q1, q2, q3, q4⟩ := hH _ _ hM
  have hr : r = (C, T, N) := Option.some.inj (h1.symm.trans hc)
  subst hr
  obtain ⟨hS, hfc, kC, hkC, hkind⟩ := hK.1 ci _ hc
  obtain ⟨cf, kf, fi, f, hi, hsl⟩ := hS k hk
  have hlay := hts _ (hin _ (u_in_lay hk))
  unfold u_lay at hlay
  rw [if_neg (by rw [hfin]; decide)] at hlay
  have hst := (u_facts hfc hkC (u_lays hts hin hk) hi).1
  have h6 := u_store hfc hkC hkind hlay hi (hty k hk) hn hfit
  refine W.putK hE.1 hE.2.1 (f := f) ⟨hE.2.2.2.1, hts _ hlink, ⟨_, _, _, hi⟩, hst⟩ (by rw [q2]; exact h6) q1 q3 (by rw [hsl]; exact k2_hasslot (q4 k hk)) rfl rfl hdg fun H' e1 e2 e3 => ?_
  rw [hsl] at e1 ⊢
  exact kk H' _ (zset M a (.inr (ci, fs.set k v))) (hH.set ⟨_, hc, t_OB.to (V := updV (vp_V fs) k v) ⟨_, e1, q2, q3, t_set q4 hap hk v⟩ (fun j _ => vp_updV_set hl v j)⟩ e3) (hS0.put e2 e3 hB) (zset_self _ _ _) (zset_ne _ _ _)
theorem z_putF (hE : zE p s m args meth c G own cc nL ret) (hin2 : meth.name = "<init>") (hH : zH G M H) (hS0 : zS n B0 H0 H locs) {ci : Nat} {fs : List Value} (hM : M a = some (.inr (ci, fs))) {C : String} {T : u_T} {N index : Nat} (hc : vwCl[ci]? = some (C, T, N)) (hin : ∀ w ∈ u_ws C T N, w ∈ Tb) (ty0 : Nat → FieldType) (hty : ∀ k, k < N → parseFieldDescriptor (T k).2.2.1 = some (ty0 k)) (hnm : ∀ a, a < N → ∀ b, b < N → a ≠ b → (T a).2.1 ≠ (T b).2.1) (k : Nat) (hk : k < N) (hlink : Cond.fieldLink own index (T k).1 (T k).2.1 (T k).2.2.1 ∈ Tb) (hfin : (T k).2.2.2 = true) (hdecl : (T k).1 = own) {v : Value} (hn : narrow (ty0 k) v = v) (hfit : fits (ty0 k) v = true) (hl : k < fs.length) (hB : B0 ≤ a) (hdg : decode cc pc = .ok (.putfield index, 3))
    (kk : ∀ (H1 : Heap) (locs1 : List Loc) (M1 : Mm), zH G M1 H1 → zS n B0 H0 H1 locs1 → M1 a = some (.inr (ci, fs.set k v)) → (∀ q : Nat, q ≠ a → M1 q = M q) → W p l e R s m args below meth c H1 locs1 cells slots Q (F0 m (pc + 3) ls rest)) : W p l e R s m args below meth c H locs cells slots Q (F0 m pc ls (v :: .ref a :: rest)) := by
  have hts := hE.2.2.2.2.1
  have hK := hE.2.2.2.2.2.2.2.1
  have hown := hE.2.2.2.1
  have hap := va_apart (own := own) hts hin ty0 hty hnm hK hc
  obtain ⟨r, h1, cell, q1, q2, q3, q4⟩ := hH _ _ hM
  have hr : r = (C, T, N) := Option.some.inj (h1.symm.trans hc)
  subst hr
  obtain ⟨hS, hfc, kC, hkC, hkind⟩ := hK.1 ci _ hc
  obtain ⟨cf, kf, fi, f, hi, hsl⟩ := hS k hk
  have hlay := hts _ (hin _ (u_in_lay hk))
  unfold u_lay at hlay
  rw [if_pos hfin] at hlay
  have hst := (u_facts hfc hkC (u_lays hts hin hk) hi).1
  have hcf : m.cls = cf := by
    obtain ⟨_, _, c', _, _, _, -, -, hf', -, -, -, hown2, -⟩ := Cond.laysFinal_spec hlay
    have e1 : c' = cf := by have := hi.symm.trans hf'; simp at this; exact this.1.symm
    rw [hdecl] at hown2
    rw [← e1]; exact Option.some.inj (hown.symm.trans hown2)
  have h6 := u_fits hfc hkC hkind (Or.inr hlay) hi (hty k hk) hn hfit
  refine W.putFinK hE.1 hE.2.1 hown (hts _ hlink) hi hst hcf hin2 (by rw [q2]; exact h6) q1 q3 (by rw [hsl]; exact k2_hasslot (q4 k hk)) rfl rfl hdg fun H' e1 e2 e3 => ?_
  rw [hsl] at e1 ⊢
  exact kk H' _ (zset M a (.inr (ci, fs.set k v))) (hH.set ⟨_, hc, t_OB.to (V := updV (vp_V fs) k v) ⟨_, e1, q2, q3, t_set q4 hap hk v⟩ (fun j _ => vp_updV_set hl v j)⟩ e3) (hS0.put e2 e3 hB) (zset_self _ _ _) (zset_ne _ _ _)
/-- an array of ints (t: its kind's place in zTy) by what it holds at its places -/
def zArr (G : zG) (t : Nat) (M : Mm) (a n : Nat) (g : Nat → Int32) : Prop := ∃ h : Nat → Int32, M a = some (.inl (G.2 t, n, .inl h)) ∧ ∀ k, k < n → h k = g k
def zRef (G : zG) (t : Nat) (M : Mm) (a n : Nat) (r : Nat → Nat) : Prop := ∃ h : Nat → Option Nat, M a = some (.inl (G.2 t, n, .inr (.inr (.inr (.inr h))))) ∧ ∀ k, k < n → h k = some (r k)
theorem zArr.kept {t : Nat} {M1 : Mm} {k : Nat} {g : Nat → Int32} (h : zArr G t M a k g) (hq : M1 a = M a) : zArr G t M1 a k g := by
  obtain ⟨f, h1, h2⟩ := h
  exact ⟨f, by rw [hq]; exact h1, h2⟩
theorem zRef.kept {t : Nat} {M1 : Mm} {k : Nat} {g : Nat → Nat} (h : zRef G t M a k g) (hq : M1 a = M a) : zRef G t M1 a k g := by
  obtain ⟨f, h1, h2⟩ := h
  exact ⟨f, by rw [hq]; exact h1, h2⟩
theorem zArr.to {t : Nat} {k : Nat} {g g' : Nat → Int32} (h : zArr G t M a k g) (hg : ∀ i, i < k → g i = g' i) : zArr G t M a k g' := by
  obtain ⟨f, h1, h2⟩ := h
  exact ⟨f, h1, fun i hi => (h2 i hi).trans (hg i hi)⟩
theorem zRef.to {t : Nat} {k : Nat} {g g' : Nat → Nat} (h : zRef G t M a k g) (hg : ∀ i, i < k → g i = g' i) : zRef G t M a k g' := by
  obtain ⟨f, h1, h2⟩ := h
  exact ⟨f, h1, fun i hi => (h2 i hi).trans (congrArg some (hg i hi))⟩
theorem nI_vin {k N : Nat} (h : k < N) (hN : N < 2 ^ 31) : vp_in (nI k) N := nI_in h hN
theorem z_iald {N : Nat} {g : Nat → Int32} (hE : zE p s m args meth c G own cc nL ret) (hH : zH G M H) (hA : zArr G 0 M a N g) {k : Nat} (hk : k < N) (hN : N < 2 ^ 31) (hdg : decode cc pc = .ok (.iaload, 1))
    (kk : W p l e R s m args below meth c H locs cells slots Q (F0 m (pc + 1) ls (.int (g k) :: rest))) : W p l e R s m args below meth c H locs cells slots Q (F0 m pc ls (.int (nI k) :: .ref a :: rest)) := by
  obtain ⟨f, h1, h2⟩ := hA
  refine va_iald hE.1 hE.2.1 hE.2.2.2.2.2.2.2.1 (hH.one h1) 0 0 rfl rfl (nI_vin hk hN) hdg ?_
  rw [nI_clamp (by omega), h2 k hk]
  exact kk
theorem z_zald {N : Nat} {g : Nat → Int32} (hE : zE p s m args meth c G own cc nL ret) (hH : zH G M H) (hA : zArr G 3 M a N g) {k : Nat} (hk : k < N) (hN : N < 2 ^ 31) (hdg : decode cc pc = .ok (.baload, 1))
    (kk : W p l e R s m args below meth c H locs cells slots Q (F0 m (pc + 1) ls (.int (g k) :: rest))) : W p l e R s m args below meth c H locs cells slots Q (F0 m pc ls (.int (nI k) :: .ref a :: rest)) := by
  obtain ⟨f, h1, h2⟩ := hA
  refine va_zald hE.1 hE.2.1 hE.2.2.2.2.2.2.2.1 (hH.one h1) 0 3 rfl rfl (nI_vin hk hN) hdg ?_
  rw [nI_clamp (by omega), h2 k hk]
  exact kk
theorem z_cald {N : Nat} {g : Nat → Int32} (hE : zE p s m args meth c G own cc nL ret) (hH : zH G M H) (hA : zArr G 4 M a N g) {k : Nat} (hk : k < N) (hN : N < 2 ^ 31) (hdg : decode cc pc = .ok (.caload, 1))
    (kk : W p l e R s m args below meth c H locs cells slots Q (F0 m (pc + 1) ls (.int (g k) :: rest))) : W p l e R s m args below meth c H locs cells slots Q (F0 m pc ls (.int (nI k) :: .ref a :: rest)) := by
  obtain ⟨f, h1, h2⟩ := hA
  refine va_cald hE.1 hE.2.1 hE.2.2.2.2.2.2.2.1 (hH.one h1) 0 4 rfl rfl (nI_vin hk hN) hdg ?_
  rw [nI_clamp (by omega), h2 k hk]
  exact kk
theorem z_aald {N t : Nat} {C : String} {r : Nat → Nat} (hE : zE p s m args meth c G own cc nL ret) (hH : zH G M H) (hA : zRef G t M a N r) (ht : (zTy G)[t]? = some (G.2 t, .object C)) {k : Nat} (hk : k < N) (hN : N < 2 ^ 31) (hdg : decode cc pc = .ok (.aaload, 1))
    (kk : W p l e R s m args below meth c H locs cells slots Q (F0 m (pc + 1) ls (.ref (r k) :: rest))) : W p l e R s m args below meth c H locs cells slots Q (F0 m pc ls (.int (nI k) :: .ref a :: rest)) := by
  obtain ⟨f, h1, h2⟩ := hA
  refine va_aldq hE.1 hE.2.1 hE.2.2.2.2.2.2.2.1 (hH.one h1) 0 t rfl ht (nI_vin hk hN) hdg ?_
  rw [nI_clamp (by omega), h2 k hk]
  exact kk
theorem z_iast {N : Nat} {g : Nat → Int32} (hE : zE p s m args meth c G own cc nL ret) (hH : zH G M H) (hS : zS n B0 H0 H locs) (hA : zArr G 0 M a N g) {k : Nat} {x : Int32} (hk : k < N) (hN : N < 2 ^ 31) (hB : B0 ≤ a) (hdg : decode cc pc = .ok (.iastore, 1))
    (kk : ∀ (H1 : Heap) (locs1 : List Loc) (M1 : Mm), zH G M1 H1 → zS n B0 H0 H1 locs1 → zArr G 0 M1 a N (fun i => if i = k then x else g i) → (∀ q : Nat, q ≠ a → M1 q = M q) → W p l e R s m args below meth c H1 locs1 cells slots Q (F0 m (pc + 1) ls rest)) : W p l e R s m args below meth c H locs cells slots Q (F0 m pc ls (.int x :: .int (nI k) :: .ref a :: rest)) := by
  obtain ⟨f, h1, h2⟩ := hA
  have hc : (nI k).toNatClampNeg = k := nI_clamp (by omega)
  refine W.iast hE.1 hE.2.1 (hH _ _ h1) ((hE.2.2.2.2.2.2.2.1.2 0 _ rfl).1 N (fun j => .int (f j))) (fun q => by cases q) (by show ¬ (nI k < 0 ∨ (arrV _ _ _).slots.size ≤ _); rw [arrV_size]; exact nI_vin hk hN) rfl rfl hdg fun H1 e z oq => ?_
  rw [hc] at e ⊢
  refine kk H1 _ (zset M a (.inl (G.2 0, N, .inl (fun i => if i = k then x else f i)))) (hH.set ?_ oq) (hS.put z oq hB) ⟨_, zset_self _ _ _, fun i hi => ?_⟩ (zset_ne _ _ _)
  · show H1[a]? = some (vp_cell _ _)
    rw [e, vp_cell_i, vp_cell_i, arrV_store]
    congr 2
    funext q
    by_cases hq : q = k
    · subst hq
      simp [updV]
    · simp [updV, hq]
  · by_cases hq : i = k
    · simp [hq]
    · simp [hq, h2 i hi]
theorem z_zast {N : Nat} {g : Nat → Int32} (hE : zE p s m args meth c G own cc nL ret) (hH : zH G M H) (hS : zS n B0 H0 H locs) (hA : zArr G 3 M a N g) {k : Nat} {x : Int32} (hx : narrow .boolean (.int x) = .int x) (hk : k < N) (hN : N < 2 ^ 31) (hB : B0 ≤ a) (hdg : decode cc pc = .ok (.bastore, 1))
    (kk : ∀ (H1 : Heap) (locs1 : List Loc) (M1 : Mm), zH G M1 H1 → zS n B0 H0 H1 locs1 → zArr G 3 M1 a N (fun i => if i = k then x else g i) → (∀ q : Nat, q ≠ a → M1 q = M q) → W p l e R s m args below meth c H1 locs1 cells slots Q (F0 m (pc + 1) ls rest)) : W p l e R s m args below meth c H locs cells slots Q (F0 m pc ls (.int x :: .int (nI k) :: .ref a :: rest)) := by
  obtain ⟨f, h1, h2⟩ := hA
  have hc : (nI k).toNatClampNeg = k := nI_clamp (by omega)
  refine W.zast hE.1 hE.2.1 (hH _ _ h1) ((hE.2.2.2.2.2.2.2.1.2 3 _ rfl).1 N (fun j => .int (f j))) (fun q => by cases q) (by show ¬ (nI k < 0 ∨ (arrV _ _ _).slots.size ≤ _); rw [arrV_size]; exact nI_vin hk hN) rfl rfl hdg fun H1 e z oq => ?_
  rw [hc, hx] at e
  rw [hc]
  refine kk H1 _ (zset M a (.inl (G.2 3, N, .inl (fun i => if i = k then x else f i)))) (hH.set ?_ oq) (hS.put z oq hB) ⟨_, zset_self _ _ _, fun i hi => ?_⟩ (zset_ne _ _ _)
  · show H1[a]? = some (vp_cell _ _)
    rw [e, vp_cell_i, vp_cell_i, arrV_store]
    congr 2
    funext q
    by_cases hq : q = k
    · subst hq
      simp [updV]
    · simp [updV, hq]
  · by_cases hq : i = k
    · simp [hq]
    · simp [hq, h2 i hi]
theorem z_cast {N : Nat} {g : Nat → Int32} (hE : zE p s m args meth c G own cc nL ret) (hH : zH G M H) (hS : zS n B0 H0 H locs) (hA : zArr G 4 M a N g) {k : Nat} {x : Int32} (hx : narrow .char (.int x) = .int x) (hk : k < N) (hN : N < 2 ^ 31) (hB : B0 ≤ a) (hdg : decode cc pc = .ok (.castore, 1))
    (kk : ∀ (H1 : Heap) (locs1 : List Loc) (M1 : Mm), zH G M1 H1 → zS n B0 H0 H1 locs1 → zArr G 4 M1 a N (fun i => if i = k then x else g i) → (∀ q : Nat, q ≠ a → M1 q = M q) → W p l e R s m args below meth c H1 locs1 cells slots Q (F0 m (pc + 1) ls rest)) : W p l e R s m args below meth c H locs cells slots Q (F0 m pc ls (.int x :: .int (nI k) :: .ref a :: rest)) := by
  obtain ⟨f, h1, h2⟩ := hA
  have hc : (nI k).toNatClampNeg = k := nI_clamp (by omega)
  refine W.cast hE.1 hE.2.1 (hH _ _ h1) ((hE.2.2.2.2.2.2.2.1.2 4 _ rfl).1 N (fun j => .int (f j))) (fun q => by cases q) (by show ¬ (nI k < 0 ∨ (arrV _ _ _).slots.size ≤ _); rw [arrV_size]; exact nI_vin hk hN) rfl rfl hdg fun H1 e z oq => ?_
  rw [hc, hx] at e
  rw [hc]
  refine kk H1 _ (zset M a (.inl (G.2 4, N, .inl (fun i => if i = k then x else f i)))) (hH.set ?_ oq) (hS.put z oq hB) ⟨_, zset_self _ _ _, fun i hi => ?_⟩ (zset_ne _ _ _)
  · show H1[a]? = some (vp_cell _ _)
    rw [e, vp_cell_i, vp_cell_i, arrV_store]
    congr 2
    funext q
    by_cases hq : q = k
    · subst hq
      simp [updV]
    · simp [updV, hq]
  · by_cases hq : i = k
    · simp [hq]
    · simp [hq, h2 i hi]
theorem z_aast {N t ci : Nat} {rq : vw_C} {r : Nat → Option Nat} {vs : List Value} {b : Nat} (hE : zE p s m args meth c G own cc nL ret) (hH : zH G M H) (hS : zS n B0 H0 H locs) (hA : M a = some (.inl (G.2 t, N, .inr (.inr (.inr (.inr r)))))) (ht : (zTy G)[t]? = some (G.2 t, .object rq.1)) (hb : M b = some (.inr (ci, vs))) (hc : vwCl[ci]? = some rq) {k : Nat} (hk : k < N) (hN : N < 2 ^ 31) (hB : B0 ≤ a) (hdg : decode cc pc = .ok (.aastore, 1))
    (kk : ∀ (H1 : Heap) (locs1 : List Loc) (M1 : Mm), zH G M1 H1 → zS n B0 H0 H1 locs1 → M1 a = some (.inl (G.2 t, N, .inr (.inr (.inr (.inr (fun i => if i = k then some b else r i)))))) → (∀ q : Nat, q ≠ a → M1 q = M q) → W p l e R s m args below meth c H1 locs1 cells slots Q (F0 m (pc + 1) ls rest)) : W p l e R s m args below meth c H locs cells slots Q (F0 m pc ls (.ref b :: .int (nI k) :: .ref a :: rest)) := by
  have hcl : (nI k).toNatClampNeg = k := nI_clamp (by omega)
  have hK := hE.2.2.2.2.2.2.2.1
  obtain ⟨r', hr', cellV, g1, g2, g3, -⟩ := hH _ _ hb
  have hcls := (hK.1 ci rq hc).2
  obtain ⟨kA, comp, k1, k2, k3, -⟩ := (hK.2 t _ ht).2
  have hcomp : comp = G.1.1 ci := Option.some.inj (k3.symm.trans hcls.1)
  subst hcomp
  obtain ⟨kC, hkC, -⟩ := hcls.2
  have hin := nI_vin hk hN
  refine W.aast hE.1 hE.2.1 (hH _ _ hA) (fun q h => by cases h) (fun h => by cases h) k1 k2 rfl hkC ⟨fun q => hin (Or.inl q), by show _ < (arrV _ _ _).slots.size; rw [arrV_size, hcl]; exact hk⟩ g1 (fun q h => by rw [g3] at h; cases h) (by rw [g2]; exact hkC) (by rw [g2]; exact va_assign hcls) rfl rfl hdg fun H1 e z oq => ?_
  rw [hcl] at e ⊢
  refine kk H1 _ (zset M a (.inl (G.2 t, N, .inr (.inr (.inr (.inr (fun i => if i = k then some b else r i))))))) (hH.set ?_ oq) (hS.put z oq hB) (zset_self _ _ _) (zset_ne _ _ _)
  show H1[a]? = some (vp_cell _ _)
  rw [e, vp_cell_q, vp_cell_q, arrV_store]
  congr 2
  funext q
  by_cases hq : q = k
  · subst hq
    simp [updV, va_rf]
  · simp [updV, hq]
end ZR
