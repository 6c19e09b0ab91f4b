def zMetA (l : Launch) (y : MethodName) (cc : ByteArray) (nL : Nat) (ret : Option FieldType) (k mc ms : Nat) (G : zG) (B0 : Nat) (M : Mm) (av : List Value) (v : Option Value) (sz : Nat) (post : Mm → Prop) : Prop :=
  B0 ≤ sz → Met l y (Tw y cc nL ret) (zR k mc ms) (zP G M sz av) (zQ G B0 sz mc v post) mc ms (fun q => B0 ≤ q)
theorem z_metA {l : Launch} {y : MethodName} {cc : ByteArray} {nL : Nat} {ret : Option FieldType} {k mc ms : Nat} {G : zG} {B0 : Nat} {M : Mm} {av : List Value} {v : Option Value} {sz : Nat} {post : Mm → Prop} (own : String) (lv : List (Nat × Value)) (hy : plainName y.cls = true) (ho : y.cls = own) (hn : (lg_sl av).length ≤ nL) (hlv : lv_args 0 av = lv)
    (body : ∀ (p : Program) (e : Env) (s : State) (m : MethodId) (below : List Frame) (meth : Method) (c : Code) (ls : Array Slot), zE p s m av.toArray meth c G own cc nL ret → meth.name = y.name → B0 ≤ s.heap.size → s.heap.size = sz → zH G M s.heap → lv_has ls nL lv →
      W p l e (zR k mc ms) s m av.toArray below meth c s.heap [] 0 0 (MQ below (zQ G B0 s.heap.size mc v post) av.toArray s mc ms (fun q => B0 ≤ q)) (F0 m 0 ls [])) : zMetA l y cc nL ret k mc ms G B0 M av v sz post := by
  intro hsz
  refine Met.ofW (cc := cc) (maxL := nL) (ret := ret) hy rfl ?_
  intro p e s m args below meth c s₁ B hml hv
  obtain ⟨rfl, hH, hK, hz⟩ := hv
  subst hz
  rw [lg_entry_eq]
  have hts := atoms_spec (ws := Tw y cc nL ret) B.pre
  exact body p e s m below meth c _ ⟨B.exec, B.bytes, hml, ho ▸ findClass_of_methodNamed B.named, fun w hw => hts w (List.mem_cons_of_mem _ hw), B.returns, B.notSynchronized, hK⟩ (name_of_methodNamed B.named B.method).1 hsz rfl hH (hlv ▸ lv_entry av hn)
theorem zS.to {n n' B0 : Nat} {H0 H : Heap} {locs : List Loc} (h : zS n B0 H0 H locs) (e : n = n') : zS n' B0 H0 H locs := e ▸ h
section ZM
variable {p : Program} {l : Launch} {e : Env} {R : Room} {s : State} {m : MethodId} {args : Array Value} {below : List Frame} {meth : Method} {c : Code} {H : Heap} {locs : List Loc} {cells slots : Nat} {Q : State → Prop}
variable {cc cc' : ByteArray} {pc nL nL' k' mc ms n nd idx sz : Nat} {ls : Array Slot} {rest st As : List Value} {lv : List (Nat × Value)} {G : zG} {M : Mm} {a b B0 : Nat} {own : String} {ret ret' : Option FieldType} {y : MethodName} {v : Option Value} {post : Mm → Prop}
theorem zH.born {H1 : Heap} {e : va_E} (h : zH G M H) (ha : a = H.size) (he : va_at G.1 vwCl (a, e) H1) (o : ∀ q, q < H.size → H1[q]? = H[q]?) : zH G (zset M a e) H1 := by
  intro b e' hb
  by_cases hba : b = a
  · subst hba
    rw [zset_self] at hb
    cases hb
    exact he
  · rw [zset_ne _ _ _ _ hba] at hb
    have h1 := h b e' hb
    exact h1.kept (o b h1.lt)
theorem zS.born {H0 H1 : Heap} (h : zS n B0 H0 H locs) (z : H1.size = H.size + 1) (o : ∀ q, q < H.size → H1[q]? = H[q]?) : zS (n + 1) B0 H0 H1 locs :=
  ⟨⟨by have := h.1.1; omega, fun q h1 h2 => (o q (Nat.lt_of_lt_of_le h1 h.1.1)).trans (h.1.2.1 q h1 h2), h.1.2.2⟩, by rw [z, h.2]; omega⟩
theorem z_new {H0 : Heap} (hE : zE p s m args meth c G own cc nL ret) (hH : zH G M H) (hS : zS n B0 H0 H locs) (ha : a = H.size) {ci : Nat} {C : String} {T : u_T} {N index : Nat} {fs : List Value} (hc : vwCl[ci]? = some (C, T, N)) (hin : ∀ w ∈ u_ws C T N, w ∈ Tb) (ty : Nat → FieldType) (hty : ∀ k, k < N → parseFieldDescriptor (T k).2.2.1 = some (ty k)) (hcl : Cond.classLink own index C ∈ Tb) (hinst : Cond.instantiable C N ∈ Tb) (hini : Cond.initialized C ∈ Tb) (hfs : ∀ j, j < N → defaultValue (ty j) = vp_V fs j) (hcells : cells + 1 ≤ R.cells) (hslots : slots + N ≤ R.slots) (hdg : decode cc pc = .ok (.new index, 3))
    (kk : ∀ (H1 : Heap) (M1 : Mm), zH G M1 H1 → zS (n + 1) B0 H0 H1 locs → M1 a = some (.inr (ci, fs)) → (∀ q : Nat, q ≠ a → M1 q = M q) → W p l e R s m args below meth c H1 locs (cells + 1) (slots + N) Q (F0 m (pc + 3) ls (.ref a :: rest))) : W p l e R s m args below meth c H locs cells slots Q (F0 m pc ls rest) := by
  have hts := hE.2.2.2.2.1
  have hKn := hE.2.2.2.2.2.2.2.1.1 ci _ hc
  refine W.newcK hE.1 hE.2.1 hE.2.2.2.1 (hts _ hcl) (hts _ hinst) (hts _ hini) rfl hdg hcells hslots hKn.2.1 rfl fun H1 kC hkC e1 z1 o1 => ?_
  have hnew : va_at G.1 vwCl (H.size, .inr (ci, fs)) H1 := ⟨_, hc, (u_born ty hts hin hKn hkC e1 hty).to hfs⟩
  rw [← ha] at hnew ⊢
  exact kk H1 (zset M a (.inr (ci, fs))) (hH.born ha hnew o1) (hS.born z1 o1) (zset_self _ _ _) (zset_ne _ _ _)
theorem z_newa {H0 : Heap} (hE : zE p s m args meth c G own cc nL ret) (hH : zH G M H) (hS : zS n B0 H0 H locs) (ha : a = H.size) {atype : ArrayType} {ty : FieldType} (t : Nat) (ht : (zTy G)[t]? = some (G.2 t, ty)) (hty : newarray.typeOf atype = ty) (harr : Cond.arrayClass ty ∈ Tb) (hra : ∀ cA, va_RA s cA ty = (s.vm.findClass ("[" ++ ty.toString) = some cA)) (hdef : defaultValue ty = .int 0) {N : Nat} (hN : N < 2 ^ 20) (hbytes : N * componentBytes ty ≤ 536870912) (hcells : cells + 1 ≤ R.cells) (hslots : slots + N ≤ R.slots) (hdg : decode cc pc = .ok (.newarray atype, 2))
    (kk : ∀ (H1 : Heap) (M1 : Mm), zH G M1 H1 → zS (n + 1) B0 H0 H1 locs → zArr G t M1 a N (fun _ => 0) → (∀ q : Nat, q ≠ a → M1 q = M q) → W p l e R s m args below meth c H1 locs (cells + 1) (slots + N) Q (F0 m (pc + 2) ls (.ref a :: rest))) : W p l e R s m args below meth c H locs cells slots Q (F0 m pc ls (.int (nI N) :: rest)) := by
  subst hty
  have hts := hE.2.2.2.2.1
  have hk := (hE.2.2.2.2.2.2.2.1.2 t _ ht).2
  rw [hra] at hk
  refine va_newaK hE.1 hE.2.1 (hts _ harr) rfl hdg rfl (nI_pos (by omega)) (nI_clamp (by omega)) hbytes hcells hslots rfl fun H1 cA e1 z1 o1 hAr hNm => ?_
  have hc : cA = G.2 t := Option.some.inj (hNm.symm.trans hk)
  subst hc
  have hnew : va_at G.1 vwCl (H.size, .inl (G.2 t, N, .inl (fun _ => 0))) H1 := by
    show H1[H.size]? = some (vp_cell _ _)
    rw [e1, vp_cell_i, hdef]
  rw [← ha] at hnew ⊢
  exact kk H1 (zset M a (.inl (G.2 t, N, .inl (fun _ => 0)))) (hH.born ha hnew o1) (hS.born z1 o1) ⟨_, zset_self _ _ _, fun _ _ => rfl⟩ (zset_ne _ _ _)
theorem z_newq {H0 : Heap} (hE : zE p s m args meth c G own cc nL ret) (hH : zH G M H) (hS : zS n B0 H0 H locs) (ha : a = H.size) {C : String} {index : Nat} (t : Nat) (ht : (zTy G)[t]? = some (G.2 t, .object C)) (hcl : Cond.classLink own index C ∈ Tb) (hover : va_AO C s) {N : Nat} (hN : N < 2 ^ 20) (hcells : cells + 1 ≤ R.cells) (hslots : slots + N ≤ R.slots) (hdg : decode cc pc = .ok (.anewarray index, 3))
    (kk : ∀ (H1 : Heap) (M1 : Mm), zH G M1 H1 → zS (n + 1) B0 H0 H1 locs → M1 a = some (.inl (G.2 t, N, .inr (.inr (.inr (.inr (fun _ => none)))))) → (∀ q : Nat, q ≠ a → M1 q = M q) → W p l e R s m args below meth c H1 locs (cells + 1) (slots + N) Q (F0 m (pc + 3) ls (.ref a :: rest))) : W p l e R s m args below meth c H locs cells slots Q (F0 m pc ls (.int (nI N) :: rest)) := by
  have hts := hE.2.2.2.2.1
  obtain ⟨kB, compB, k1, k2, k3, k4⟩ := (hE.2.2.2.2.2.2.2.1.2 t _ ht).2
  have hcl2 : (nI N).toNatClampNeg = N := nI_clamp (by omega)
  refine W.anew hE.1 hE.2.1 hE.2.2.2.1 (hts _ hcl) (va_AO.use hover) rfl hdg rfl (nI_pos (by omega)) (by rw [hcl2]; omega) hcells (by rw [hcl2]; exact hslots) fun cA kA comp f1 f2 f3 f4 => ?_
  have hc : cA = G.2 t := Option.some.inj (f1.symm.trans k4)
  subst hc
  rw [hcl2]
  generalize hH1 : H.push ({ cls := G.2 t, slots := Array.replicate N .null, vm := .none } : Cell) = H1
  have z1 : H1.size = H.size + 1 := by rw [← hH1, Array.size_push]
  have e1 : H1[H.size]? = some (arrV (G.2 t) N (fun _ => .null)) := by rw [← hH1, Array.getElem?_push_size, ← arrV_new]
  have o1 : ∀ q : Nat, q < H.size → H1[q]? = H[q]? := fun q hq => by rw [← hH1, Array.getElem?_push, if_neg (Nat.ne_of_lt hq)]
  have hnew : va_at G.1 vwCl (H.size, .inl (G.2 t, N, .inr (.inr (.inr (.inr (fun _ => none)))))) H1 := by
    show H1[H.size]? = some (vp_cell _ _)
    rw [vp_cell_q]
    exact e1
  rw [← ha] at hnew ⊢
  exact kk H1 (zset M a (.inl (G.2 t, N, .inr (.inr (.inr (.inr (fun _ => none))))))) (hH.born ha hnew o1) (hS.born z1 o1) (zset_self _ _ _) (zset_ne _ _ _)
theorem z_obj (hE : zE p s m args meth c G own cc nL ret) (hl : lv_has ls nL lv) (hli : Cond.methodLink own idx objectInit ∈ Tb) (hfr : 1 ≤ R.frames) (hlo : (rest.map fun v => v.category).sum + 12 ≤ R.locals) (hdg : decode cc pc = .ok (.invokespecial idx, 3)) (kk : W p l e R s m args below meth c H locs cells slots Q (F0 m (pc + 3) ls rest)) : W p l e R s m args below meth c H locs cells slots Q (F0 m pc ls (.ref a :: rest)) := by
  have hts := hE.2.2.2.2.1
  refine W.objInit hE.1 hE.2.1 hE.2.2.2.1 (hts _ hli) (hts _ im_objectInit) (hts _ co_objectInit) rfl (by rw [hE.2.2.1]; exact hl.1) rfl hdg hfr ?_ kk
  have : 2 * (F0 m pc ls (.ref a :: rest)).monitorRoom = 0 := rfl
  omega
theorem z_callIA (hE : zE p s m args meth c G own cc nL ret) (hH : zH G M H) (hS : zS n B0 s.heap H locs) (hB0 : B0 ≤ s.heap.size) (hl : lv_has ls nL lv) (ca : zCai y cc' nL' nd) (hli : Cond.methodLink own idx y ∈ Tb) (hM : zMetA l y cc' nL' none k' mc ms G B0 M (.ref b :: As) none sz post) (hsz : sz = H.size) (hn : As.length = nd) (hst : st = As.reverse ++ .ref b :: rest) (hr : k' + 1 ≤ R.frames ∧ 19 + nL' + 32 * k' ≤ R.locals) (hcat : (rest.map fun v => v.category).sum ≤ 8) (hcs : cells + mc ≤ R.cells ∧ slots + ms ≤ R.slots) (hdg : decode cc pc = .ok (.invokespecial idx, 3))
    (kk : ∀ (H1 : Heap) (locs1 : List Loc) (M1 : Mm), zH G M1 H1 → post M1 → zS (n + mc) B0 s.heap H1 locs1 → W p l e R s m args below meth c H1 locs1 (cells + mc) (slots + ms) Q (F0 m (pc + 3) ls rest)) : W p l e R s m args below meth c H locs cells slots Q (F0 m pc ls st) := by
  have hts := hE.2.2.2.2.1
  have hK := hE.2.2.2.2.2.2.2
  subst hst
  subst hsz
  have hB := z_callB (R := R) (mc := mc) (ms := ms) hE ca.1 ca.2.2.1 ca.2.2.2.2 hli hr
  exact z_run (v := none) (va_runI (Ts := Tb) (As := As) (rest := rest) ⟨hE.1, hE.2.1, hE.2.2.1, hE.2.2.2.1, hts⟩ (hM (by rw [hS.2]; omega)) ⟨hB, ca.2.2.2.1, hts _ ca.2.1⟩ ⟨zP.blind, fun U hU hW => ⟨rfl, by rw [hU]; exact hH, hK.warm hW, by rw [hU]⟩⟩ rfl hn hl.1 rfl (lv_room hcat) hdg hcs) hS kk
end ZM
theorem ra_int {U : State} (cA : ClassId) : va_RA U cA .int = (U.vm.findClass ("[" ++ FieldType.int.toString) = some cA) := rfl
theorem ra_bool {U : State} (cA : ClassId) : va_RA U cA .boolean = (U.vm.findClass ("[" ++ FieldType.boolean.toString) = some cA) := rfl
theorem ra_char {U : State} (cA : ClassId) : va_RA U cA .char = (U.vm.findClass ("[" ++ FieldType.char.toString) = some cA) := rfl
/-- a wall as it is made -/
def v00 : Wv := fun i => if 4 ≤ i ∧ i < 14 then 1 else 0
theorem v00_0 : v00 0 ≤ 12 := by decide

set_option maxHeartbeats 4000000 in
set_option maxRecDepth 100000 in
theorem c_X0_init (l : Launch) (G : zG) (B0 : Nat) (M : Mm) (a : Nat) (hM0 : M a = some (.inr (0, [.int (nI 0), .int (nI 0), .int (nI 0), .int (nI 0)]))) (hBa : B0 ≤ a) : zMetA l yX0_init cX0_init 1 none 1 0 0 G B0 M [.ref a] none (a + 1) (fun M1 => M1 = M) := by
  refine z_metA RX0 [(0, .ref a)] (by decide) rfl (Nat.le_of_ble_eq_true rfl) rfl ?_
  intro pg ev s m below meth cd ls hE hin hB0 hsz hH hl
  have hx := hE.1
  have hb := hE.2.1
  have hF : ∀ q : Nat, (q < a ∨ a + 1 ≤ q) → M q = M q := fun _ _ => rfl
  refine z_gen B0 (fun H locs hH hS => ?_) hH
  refine lv_aload_n hx hb dX0_init_0 rfl (lv_at hl 0 rfl) ?_
  refine z_obj hE hl mkX0_3 (Nat.le_of_ble_eq_true rfl) (Nat.le_of_ble_eq_true rfl) dX0_init_1 ?_
  refine W.widen (k := 0) (n := 0) (by omega) (by omega) ?_
  exact z_vret hE hH (hS.to (by omega)) rfl dX0_init_4

set_option maxHeartbeats 4000000 in
set_option maxRecDepth 100000 in
theorem c_X3_init (l : Launch) (G : zG) (B0 : Nat) (M : Mm) (a : Nat) (hM0 : M a = some (.inr (3, [.int (nI 0), .int (nI 0), .int (nI 0), .int (nI 0), .int (nI 0), .int (nI 0), .int (nI 0), .null]))) (hBa : B0 ≤ a) : zMetA l yX3_init cX3_init 1 none 1 1 60 G B0 M [.ref a] none (a + 1) (fun M1 => Pst G a (fun _ => 0) (fun _ => 0) M1 ∧ ∀ q : Nat, (q < a ∨ a + 2 ≤ q) → M1 q = M q) := by
  refine z_metA RX3 [(0, .ref a)] (by decide) rfl (Nat.le_of_ble_eq_true rfl) rfl ?_
  intro pg ev s m below meth cd ls hE hin hB0 hsz hH hl
  have hx := hE.1
  have hb := hE.2.1
  have hF : ∀ q : Nat, (q < a ∨ a + 2 ≤ q) → M q = M q := fun _ _ => rfl
  refine z_gen B0 (fun H locs hH hS => ?_) hH
  refine lv_aload_n hx hb dX3_init_0 rfl (lv_at hl 0 rfl) ?_
  refine z_obj hE hl mkX3_3 (Nat.le_of_ble_eq_true rfl) (Nat.le_of_ble_eq_true rfl) dX3_init_1 ?_
  refine lv_aload_n hx hb dX3_init_4 rfl (lv_at hl 0 rfl) ?_
  refine n_bipush hx hb 60 dX3_init_5 (by decide) ?_
  refine z_newa (a := a + 1) hE hH hS (by rw [hS.2]; omega) 0 rfl rfl ac_int ra_int rfl (N := 60) (by decide) (Nat.le_of_ble_eq_true rfl) (by show _ ≤ 1; omega) (by show _ ≤ 60; omega) dX3_init_7 (fun H M3 hH hS e1 o2 => ?_)
  have k4 := (o2 _ (by omega)).trans hM0
  have k5 := fun q hq => (o2 q (by omega)).trans (hF q hq)
  refine z_putF (T := TX3) hE hin hH hS k4 rfl uw_X3 tyX3 tyX3_ok nmX3 7 (by decide) fkX3_9 rfl rfl rfl rfl (Nat.le_of_ble_eq_true rfl) (by omega) dX3_init_9 (fun H locs M8 hH hS e6 o7 => ?_)
  have k9 := fun q hq => (o7 q (by omega)).trans (k5 q hq)
  have k10 := e1.kept (o7 _ (by omega))
  refine W.widen (k := 1) (n := 60) (by omega) (by omega) ?_
  exact z_vret hE hH (hS.to (by omega)) ⟨⟨e6, k10⟩, k9⟩ dX3_init_12
