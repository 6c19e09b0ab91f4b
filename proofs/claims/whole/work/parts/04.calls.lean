def zD (y : MethodName) (n : Nat) : Prop := y.cls ≠ "java/lang/invoke/MethodHandle" ∧ y.cls ≠ "java/lang/invoke/VarHandle" ∧ (parseMethodDescriptor y.desc).map (fun d => d.parameters.length) = some n
/-- what the table says of an instance method of n arguments -/
def zCal (y : MethodName) (cc : ByteArray) (nL : Nat) (ret : Option FieldType) (n : Nat) : Prop :=
  Cond.code y cc nL ret ∈ Tb ∧ Cond.instanceMethod y ∈ Tb ∧ Cond.selects y.cls y y ∈ Tb ∧ Cond.initialized y.cls ∈ Tb ∧ zD y n
def zCas (y : MethodName) (cc : ByteArray) (nL : Nat) (ret : Option FieldType) (n : Nat) : Prop :=
  Cond.code y cc nL ret ∈ Tb ∧ Cond.static y ∈ Tb ∧ Cond.initialized y.cls ∈ Tb ∧ zD y n
def zCai (y : MethodName) (cc : ByteArray) (nL : Nat) (n : Nat) : Prop :=
  Cond.code y cc nL none ∈ Tb ∧ Cond.instanceMethod y ∈ Tb ∧ Cond.initialized y.cls ∈ Tb ∧ y.name = "<init>" ∧ zD y n
section ZC
variable {p : Program} {l : Launch} {e : Env} {R : Room} {s : State} {m : MethodId} {args : Array Value} {below : List Frame} {meth : Method} {c : Code} {H : Heap} {locs : List Loc} {cells slots : Nat} {Q : State → Prop}
variable {cc cc' : ByteArray} {pc nL nL' k' mc ms n nd idx : Nat} {ls : Array Slot} {rest st As : List Value} {lv : List (Nat × Value)} {G : zG} {M : Mm} {b B0 : Nat} {own : String} {ret ret' : Option FieldType} {y : MethodName} {v : Option Value} {post : Mm → Prop}
theorem z_run {a : Array Value} (hr : va_Run p l e R s m args below meth c H locs cells slots mc ms (F0 m pc ls st) rest (zQ G B0 H.size mc v post a) (fun q => B0 ≤ q)) (hS : zS n B0 s.heap H locs)
    (kk : ∀ (H1 : Heap) (locs1 : List Loc) (M1 : Mm), zH G M1 H1 → post M1 → zS (n + mc) B0 s.heap H1 locs1 → W p l e R s m args below meth c H1 locs1 (cells + mc) (slots + ms) Q (F0 m (pc + 3) ls (v.toList ++ rest))) : W p l e R s m args below meth c H locs cells slots Q (F0 m pc ls st) := by
  intro T hT X
  obtain ⟨v', st₀, t, T', L, h0, X', hL, e1, e2, ⟨hv, ⟨M1, hM1, hp⟩, hz, hk⟩, st⟩ := hr T hT X
  cases hv
  rw [h0] at hk
  obtain ⟨t2, a1, b1⟩ := kk T'.heap (locs ++ L) M1 (by rw [e1]; exact hM1) hp ⟨⟨by rw [e1, hz]; have := hS.1.1; omega, fun q h1 h2 => by
      rw [e1, hk q (Nat.lt_of_lt_of_le h1 hS.1.1) (Nat.not_le.mp h2)]; exact hS.1.2.1 q h1 h2, fun q hq => by
      rcases List.mem_append.mp hq with h | h
      · exact hS.1.2.2 q h
      · exact hL q h⟩, by rw [e1, hz, hS.2]; omega⟩ T' rfl X'
  exact ⟨t2, st t2 a1, b1⟩
theorem z_pay (hts : ∀ w ∈ Tb, w.before args s = true) (hco : Cond.code y cc' nL' ret' ∈ Tb) : ∀ w ∈ Tw y cc' nL' ret', ∀ (a' : Array Value) (U : State), s.WarmedH U.vm → w.before a' U = true := pay_in hts (tw_good hco)
theorem z_callB (hE : zE p s m args meth c G own cc nL ret) (hco : Cond.code y cc' nL' ret' ∈ Tb) (hini : Cond.initialized y.cls ∈ Tb) (hd : zD y nd) (hli : Cond.methodLink own idx y ∈ Tb) (hr : k' + 1 ≤ R.frames ∧ 19 + nL' + 32 * k' ≤ R.locals) : CallB R s args own idx y cc' nL' ret' (Tw y cc' nL' ret') (zR k' mc ms) mc ms nd := by
  have hts := hE.2.2.2.2.1
  refine ⟨rfl, rfl, hr.1, by show 8 + (nL' + 11) + 32 * k' ≤ _; omega, z_pay hts hco, List.mem_cons_self, hts _ hco, hts _ hini, ⟨hd.1, hd.2.1⟩, fun sig h => ?_, hts _ hli⟩
  have h2 := hd.2.2
  rw [h] at h2
  exact (Option.some.inj h2).symm
theorem z_callV (hE : zE p s m args meth c G own cc nL ret) (hH : zH G M H) (hS : zS n B0 s.heap H locs) (hB0 : B0 ≤ s.heap.size) (hl : lv_has ls nL lv) (ca : zCal y cc' nL' ret' nd) (hli : Cond.methodLink own idx y ∈ Tb) (hM : zMet l y cc' nL' ret' k' mc ms G B0 M (.ref b :: As) v post) {ci : Nat} {fs : List Value} {rq : vw_C} (hrec : M b = some (.inr (ci, fs))) (hci : vwCl[ci]? = some rq) (hC : rq.1 = y.cls) {st2 : List Value} (h2 : v.toList ++ rest = st2) (hn : As.length = nd) (hst : st = As.reverse ++ .ref b :: rest) (hr : k' + 1 ≤ R.frames ∧ 19 + nL' + 32 * k' ≤ R.locals) (hcat : (rest.map fun v => v.category).sum ≤ 8) (hcs : cells + mc ≤ R.cells ∧ slots + ms ≤ R.slots) (hdg : decode cc pc = .ok (.invokevirtual idx, 3))
    (kk : ∀ (H1 : Heap) (locs1 : List Loc) (M1 : Mm), zH G M1 H1 → post M1 → zS (n + mc) B0 s.heap H1 locs1 → W p l e R s m args below meth c H1 locs1 (cells + mc) (slots + ms) Q (F0 m (pc + 3) ls st2)) : W p l e R s m args below meth c H locs cells slots Q (F0 m pc ls st) := by
  have hts := hE.2.2.2.2.1
  have hK := hE.2.2.2.2.2.2.2
  subst hst
  subst h2
  have hB := z_callB (R := R) (mc := mc) (ms := ms) hE ca.1 ca.2.2.2.1 ca.2.2.2.2 hli hr
  refine z_run (va_runV (Ts := Tb) (As := As) (rest := rest) (C := y.cls) ⟨hE.1, hE.2.1, hE.2.2.1, hE.2.2.2.1, hts⟩ (hM H.size (by rw [hS.2]; omega)) ⟨hB, hts _ ca.2.1, hts _ ca.2.2.1⟩ ⟨zP.blind, ?_, fun U hU hW => ⟨rfl, by rw [hU]; exact hH, hK.warm hW, by rw [hU]⟩⟩ rfl hn hl.1 rfl (lv_room hcat) hdg hcs) hS kk
  have := va_recv hK.1 (hH.one hrec) hci (q0 := 0) rfl
  rw [hC] at this
  exact this
theorem z_callS (hE : zE p s m args meth c G own cc nL ret) (hH : zH G M H) (hS : zS n B0 s.heap H locs) (hB0 : B0 ≤ s.heap.size) (hl : lv_has ls nL lv) (ca : zCas y cc' nL' ret' nd) (hli : Cond.methodLink own idx y ∈ Tb) (hM : zMet l y cc' nL' ret' k' mc ms G B0 M As v post) {st2 : List Value} (h2 : v.toList ++ rest = st2) (hn : As.length = nd) (hst : st = As.reverse ++ rest) (hr : k' + 1 ≤ R.frames ∧ 19 + nL' + 32 * k' ≤ R.locals) (hcat : (rest.map fun v => v.category).sum ≤ 8) (hcs : cells + mc ≤ R.cells ∧ slots + ms ≤ R.slots) (hdg : decode cc pc = .ok (.invokestatic idx, 3))
    (kk : ∀ (H1 : Heap) (locs1 : List Loc) (M1 : Mm), zH G M1 H1 → post M1 → zS (n + mc) B0 s.heap H1 locs1 → W p l e R s m args below meth c H1 locs1 (cells + mc) (slots + ms) Q (F0 m (pc + 3) ls st2)) : W p l e R s m args below meth c H locs cells slots Q (F0 m pc ls st) := by
  have hts := hE.2.2.2.2.1
  have hK := hE.2.2.2.2.2.2.2
  subst hst
  subst h2
  have hB := z_callB (R := R) (mc := mc) (ms := ms) hE ca.1 ca.2.2.1 ca.2.2.2 hli hr
  exact z_run (va_runS (Ts := Tb) (As := As) (rest := rest) ⟨hE.1, hE.2.1, hE.2.2.1, hE.2.2.2.1, hts⟩ (hM H.size (by rw [hS.2]; omega)) ⟨hB, hts _ ca.2.1⟩ ⟨zP.blind, fun U hU hW => ⟨rfl, by rw [hU]; exact hH, hK.warm hW, by rw [hU]⟩⟩ rfl hn hl.1 rfl (lv_room hcat) hdg hcs) hS kk
theorem z_callI (hE : zE p s m args meth c G own cc nL ret) (hH : zH G M H) (hS : zS n B0 s.heap H locs) (hB0 : B0 ≤ s.heap.size) (hl : lv_has ls nL lv) (ca : zCai y cc' nL' nd) (hli : Cond.methodLink own idx y ∈ Tb) (hM : zMet l y cc' nL' none k' mc ms G B0 M (.ref b :: As) v post) {st2 : List Value} (h2 : v.toList ++ rest = st2) (hn : As.length = nd) (hst : st = As.reverse ++ .ref b :: rest) (hr : k' + 1 ≤ R.frames ∧ 19 + nL' + 32 * k' ≤ R.locals) (hcat : (rest.map fun v => v.category).sum ≤ 8) (hcs : cells + mc ≤ R.cells ∧ slots + ms ≤ R.slots) (hdg : decode cc pc = .ok (.invokespecial idx, 3))
    (kk : ∀ (H1 : Heap) (locs1 : List Loc) (M1 : Mm), zH G M1 H1 → post M1 → zS (n + mc) B0 s.heap H1 locs1 → W p l e R s m args below meth c H1 locs1 (cells + mc) (slots + ms) Q (F0 m (pc + 3) ls st2)) : W p l e R s m args below meth c H locs cells slots Q (F0 m pc ls st) := by
  have hts := hE.2.2.2.2.1
  have hK := hE.2.2.2.2.2.2.2
  subst hst
  subst h2
  have hB := z_callB (R := R) (mc := mc) (ms := ms) hE ca.1 ca.2.2.1 ca.2.2.2.2 hli hr
  exact z_run (va_runI (Ts := Tb) (As := As) (rest := rest) ⟨hE.1, hE.2.1, hE.2.2.1, hE.2.2.2.1, hts⟩ (hM H.size (by rw [hS.2]; omega)) ⟨hB, ca.2.2.2.1, hts _ ca.2.1⟩ ⟨zP.blind, fun U hU hW => ⟨rfl, by rw [hU]; exact hH, hK.warm hW, by rw [hU]⟩⟩ rfl hn hl.1 rfl (lv_room hcat) hdg hcs) hS kk
theorem z_cn {host : String} (hE : zE p s m args meth c G own cc nL ret) (hco : Cond.code y cc' nL' ret' ∈ Tb) (hini : Cond.initialized y.cls ∈ Tb) (hd : zD y nd) (hli : va_Nw (.methodLinkNest own idx y host) s) (hr : k' + 1 ≤ R.frames ∧ 19 + nL' + 32 * k' ≤ R.locals) : va_CN R s args own idx y host cc' nL' ret' (Tw y cc' nL' ret') (zR k' mc ms) mc ms nd := by
  have hts := hE.2.2.2.2.1
  refine ⟨⟨rfl, rfl, hr.1, by show 8 + (nL' + 11) + 32 * k' ≤ _; omega, z_pay hts hco, List.mem_cons_self⟩, hts _ hco, hts _ hini, ⟨hd.1, hd.2.1⟩, fun sig h => ?_, va_Nw.use rfl hli⟩
  have h2 := hd.2.2
  rw [h] at h2
  exact (Option.some.inj h2).symm
theorem z_callSN {host : String} (hE : zE p s m args meth c G own cc nL ret) (hH : zH G M H) (hS : zS n B0 s.heap H locs) (hB0 : B0 ≤ s.heap.size) (hl : lv_has ls nL lv) (ca : zCas y cc' nL' ret' nd) (hli : va_Nw (.methodLinkNest own idx y host) s) (hM : zMet l y cc' nL' ret' k' mc ms G B0 M As v post) {st2 : List Value} (h2 : v.toList ++ rest = st2) (hn : As.length = nd) (hst : st = As.reverse ++ rest) (hr : k' + 1 ≤ R.frames ∧ 19 + nL' + 32 * k' ≤ R.locals) (hcat : (rest.map fun v => v.category).sum ≤ 8) (hcs : cells + mc ≤ R.cells ∧ slots + ms ≤ R.slots) (hdg : decode cc pc = .ok (.invokestatic idx, 3))
    (kk : ∀ (H1 : Heap) (locs1 : List Loc) (M1 : Mm), zH G M1 H1 → post M1 → zS (n + mc) B0 s.heap H1 locs1 → W p l e R s m args below meth c H1 locs1 (cells + mc) (slots + ms) Q (F0 m (pc + 3) ls st2)) : W p l e R s m args below meth c H locs cells slots Q (F0 m pc ls st) := by
  have hts := hE.2.2.2.2.1
  have hK := hE.2.2.2.2.2.2.2
  subst hst
  subst h2
  have hB := z_cn (R := R) (mc := mc) (ms := ms) hE ca.1 ca.2.2.1 ca.2.2.2 hli hr
  exact z_run (va_runSN (Ts := Tb) (As := As) (rest := rest) ⟨hE.1, hE.2.1, hE.2.2.1, hE.2.2.2.1, hts⟩ (hM H.size (by rw [hS.2]; omega)) ⟨hB, hts _ ca.2.1, trivial⟩ ⟨zP.blind, fun U hU hW => ⟨rfl, by rw [hU]; exact hH, hK.warm hW, by rw [hU]⟩⟩ rfl hn hl.1 rfl (lv_room hcat) hdg hcs) hS kk
theorem z_callIN {host : String} (hE : zE p s m args meth c G own cc nL ret) (hH : zH G M H) (hS : zS n B0 s.heap H locs) (hB0 : B0 ≤ s.heap.size) (hl : lv_has ls nL lv) (ca : zCai y cc' nL' nd) (hli : va_Nw (.methodLinkNest own idx y host) s) (hM : zMet l y cc' nL' none k' mc ms G B0 M (.ref b :: As) v post) {st2 : List Value} (h2 : v.toList ++ rest = st2) (hn : As.length = nd) (hst : st = As.reverse ++ .ref b :: rest) (hr : k' + 1 ≤ R.frames ∧ 19 + nL' + 32 * k' ≤ R.locals) (hcat : (rest.map fun v => v.category).sum ≤ 8) (hcs : cells + mc ≤ R.cells ∧ slots + ms ≤ R.slots) (hdg : decode cc pc = .ok (.invokespecial idx, 3))
    (kk : ∀ (H1 : Heap) (locs1 : List Loc) (M1 : Mm), zH G M1 H1 → post M1 → zS (n + mc) B0 s.heap H1 locs1 → W p l e R s m args below meth c H1 locs1 (cells + mc) (slots + ms) Q (F0 m (pc + 3) ls st2)) : W p l e R s m args below meth c H locs cells slots Q (F0 m pc ls st) := by
  have hts := hE.2.2.2.2.1
  have hK := hE.2.2.2.2.2.2.2
  subst hst
  subst h2
  have hB := z_cn (R := R) (mc := mc) (ms := ms) hE ca.1 ca.2.2.1 ca.2.2.2.2 hli hr
  exact z_run (va_runIN (Ts := Tb) (As := As) (rest := rest) ⟨hE.1, hE.2.1, hE.2.2.1, hE.2.2.2.1, hts⟩ (hM H.size (by rw [hS.2]; omega)) ⟨hB, ca.2.2.2.1, hts _ ca.2.1⟩ ⟨zP.blind, fun U hU hW => ⟨rfl, by rw [hU]; exact hH, hK.warm hW, by rw [hU]⟩⟩ rfl hn hl.1 rfl (lv_room hcat) hdg hcs) hS kk
end ZC
/-! natural numbers as ints -/
theorem nI_mul (a b : Nat) : nI a * nI b = nI (a * b) := by
  unfold nI; exact (Int32.ofNat_mul a b).symm
theorem nI_sub {a b : Nat} (h : b ≤ a) : nI a - nI b = nI (a - b) := by
  have : nI (a - b) + nI b = nI a := by rw [nI_add, Nat.sub_add_cancel h]
  rw [← this, Int32.add_sub_cancel]
theorem nI_lit (n : Nat) : Int32.ofNat n = nI n := rfl
theorem nI_inj {a b : Nat} (ha : a < 2 ^ 31) (hb : b < 2 ^ 31) : nI a = nI b ↔ a = b := by
  constructor
  · intro h
    have h1 := congrArg Int32.toInt h
    rw [nI_toInt ha, nI_toInt hb] at h1
    omega
  · intro h; rw [h]
theorem nI_lt_iff {a b : Nat} (ha : a < 2 ^ 31) (hb : b < 2 ^ 31) : nI a < nI b ↔ a < b := by
  rw [Int32.lt_iff_toInt_lt, nI_toInt ha, nI_toInt hb]; omega
theorem nI_le_iff {a b : Nat} (ha : a < 2 ^ 31) (hb : b < 2 ^ 31) : nI a ≤ nI b ↔ a ≤ b := by
  rw [Int32.le_iff_toInt_le, nI_toInt ha, nI_toInt hb]; omega
theorem nI_ofB {x : Int32} (h0 : 0 ≤ x) {b : Nat} (hb : b < 2 ^ 31) (h1 : x ≤ nI b) : ∃ k, x = nI k ∧ k ≤ b := by
  refine ⟨x.toInt.toNat, ?_, ?_⟩
  · have h2 : 0 ≤ x.toInt := by simpa using Int32.le_iff_toInt_le.mp h0
    apply Int32.toInt_inj.mp
    have h3 := Int32.le_iff_toInt_le.mp h1
    rw [nI_toInt hb] at h3
    rw [nI_toInt (by omega)]
    omega
  · have h3 := Int32.le_iff_toInt_le.mp h1
    rw [nI_toInt hb] at h3
    omega
theorem nI_inc (k : Nat) : nI k + Int32.ofInt 1 = nI (k + 1) := (nI_succ k).symm
theorem nI_dec (k : Nat) : nI (k + 1) + Int32.ofInt (-1) = nI k := by
  rw [← nI_pred k, nI_succ]
  rw [Int32.sub_eq_add_neg]; rfl
section ZN
variable {p : Program} {l : Launch} {e : Env} {R : Room} {s : State} {m : MethodId} {args : Array Value} {below : List Frame} {meth : Method} {c : Code} {H : Heap} {locs : List Loc} {cells slots : Nat} {Q : State → Prop}
variable {cc : ByteArray} {pc tgt : Nat} {off : Int} {ls : Array Slot} {rest : List Value} {a b : Nat}
theorem n_iconst (hx : p.tables.exec = Jvm.exec) (hb : c.code = cc) (k : Nat) {z : Int} (hdg : decode cc pc = .ok (.iconst z, 1)) (hz : Int32.ofInt z = nI k) (kk : W p l e R s m args below meth c H locs cells slots Q (F0 m (pc + 1) ls (.int (nI k) :: rest))) : W p l e R s m args below meth c H locs cells slots Q (F0 m pc ls rest) := lv_iconst hx hb hdg hz kk
theorem n_bipush (hx : p.tables.exec = Jvm.exec) (hb : c.code = cc) (k : Nat) {z : Int} (hdg : decode cc pc = .ok (.bipush z, 2)) (hz : (Int8.ofInt z).toInt32 = nI k) (kk : W p l e R s m args below meth c H locs cells slots Q (F0 m (pc + 2) ls (.int (nI k) :: rest))) : W p l e R s m args below meth c H locs cells slots Q (F0 m pc ls rest) := lv_bipush hx hb hdg hz kk
theorem n_sipush (hx : p.tables.exec = Jvm.exec) (hb : c.code = cc) (k : Nat) {z : Int} (hdg : decode cc pc = .ok (.sipush z, 3)) (hz : (Int16.ofInt z).toInt32 = nI k) (kk : W p l e R s m args below meth c H locs cells slots Q (F0 m (pc + 3) ls (.int (nI k) :: rest))) : W p l e R s m args below meth c H locs cells slots Q (F0 m pc ls rest) := lv_sipush hx hb hdg hz kk
theorem n_iadd (hx : p.tables.exec = Jvm.exec) (hb : c.code = cc) (hdg : decode cc pc = .ok (.iadd, 1)) (kk : W p l e R s m args below meth c H locs cells slots Q (F0 m (pc + 1) ls (.int (nI (a + b)) :: rest))) : W p l e R s m args below meth c H locs cells slots Q (F0 m pc ls (.int (nI b) :: .int (nI a) :: rest)) := lv_iadd hx hb hdg (by rw [nI_add]; exact kk)
theorem n_imul (hx : p.tables.exec = Jvm.exec) (hb : c.code = cc) (hdg : decode cc pc = .ok (.imul, 1)) (kk : W p l e R s m args below meth c H locs cells slots Q (F0 m (pc + 1) ls (.int (nI (a * b)) :: rest))) : W p l e R s m args below meth c H locs cells slots Q (F0 m pc ls (.int (nI b) :: .int (nI a) :: rest)) := lv_imul hx hb hdg (by rw [nI_mul]; exact kk)
theorem n_isub (hx : p.tables.exec = Jvm.exec) (hb : c.code = cc) (hab : b ≤ a) (hdg : decode cc pc = .ok (.isub, 1)) (kk : W p l e R s m args below meth c H locs cells slots Q (F0 m (pc + 1) ls (.int (nI (a - b)) :: rest))) : W p l e R s m args below meth c H locs cells slots Q (F0 m pc ls (.int (nI b) :: .int (nI a) :: rest)) := lv_isub hx hb hdg (by rw [nI_sub hab]; exact kk)
theorem nI_div {a b : Nat} (ha : a < 2 ^ 31) (hb : b < 2 ^ 31) : nI a / nI b = nI (a / b) := by
  apply Int32.toInt_inj.mp
  have h1 : a / b ≤ a := Nat.div_le_self a b
  rw [nI_toInt (by omega)]
  by_cases hb0 : b = 0
  · subst hb0
    simp [nI_0]
  · rw [Int32.toInt_div_of_ne_left]
    · rw [nI_toInt ha, nI_toInt hb]
      exact (Int.ofNat_tdiv a b).symm
    · intro h
      have h2 := congrArg Int32.toInt h
      rw [nI_toInt ha] at h2
      have h3 : (Int32.minValue).toInt = -2147483648 := by decide
      omega
theorem nI_z {b : Nat} (hb : b < 2 ^ 31) : nI b = 0 ↔ b = 0 := by rw [← nI_0, nI_inj hb (by decide)]
theorem n_idiv (hx : p.tables.exec = Jvm.exec) (hb : c.code = cc) (ha : a < 2 ^ 31) (hbb : b < 2 ^ 31) (h0 : 0 < b) (hdg : decode cc pc = .ok (.idiv, 1)) (kk : W p l e R s m args below meth c H locs cells slots Q (F0 m (pc + 1) ls (.int (nI (a / b)) :: rest))) : W p l e R s m args below meth c H locs cells slots Q (F0 m pc ls (.int (nI b) :: .int (nI a) :: rest)) := lv_idiv hx hb hdg (by rw [nI_z hbb]; omega) (by rw [nI_div ha hbb]; exact kk)
theorem n_irem (hx : p.tables.exec = Jvm.exec) (hb : c.code = cc) (ha : a < 2 ^ 31) (hbb : b < 2 ^ 31) (h0 : 0 < b) (hdg : decode cc pc = .ok (.irem, 1)) (kk : W p l e R s m args below meth c H locs cells slots Q (F0 m (pc + 1) ls (.int (nI (a % b)) :: rest))) : W p l e R s m args below meth c H locs cells slots Q (F0 m pc ls (.int (nI b) :: .int (nI a) :: rest)) := by
  refine lv_irem hx hb hdg (by rw [nI_z hbb]; omega) ?_
  have h1 : a / b * b ≤ a := Nat.div_mul_le_self a b
  rw [nI_div ha hbb, nI_mul, nI_sub h1]
  have h2 : a - a / b * b = a % b := by rw [Nat.mul_comm]; exact (Nat.mod_eq_sub_mul_div).symm
  rw [h2]
  exact kk
theorem n_cmp_eq (hx : p.tables.exec = Jvm.exec) (hb : c.code = cc) (ha : a < 2 ^ 31) (hbb : b < 2 ^ 31) (hdg : decode cc pc = .ok (.if_icmp .eq off, 3)) (ht : (pc : Int) + off = (tgt : Int)) (kt : a = b → W p l e R s m args below meth c H locs cells slots Q (F0 m tgt ls rest)) (kf : a ≠ b → W p l e R s m args below meth c H locs cells slots Q (F0 m (pc + 3) ls rest)) : W p l e R s m args below meth c H locs cells slots Q (F0 m pc ls (.int (nI b) :: .int (nI a) :: rest)) := lv_icmp_eq hx hb hdg ht (fun h => kt ((nI_inj ha hbb).mp h)) (fun h => kf (fun q => h ((nI_inj ha hbb).mpr q)))
theorem n_cmp_ne (hx : p.tables.exec = Jvm.exec) (hb : c.code = cc) (ha : a < 2 ^ 31) (hbb : b < 2 ^ 31) (hdg : decode cc pc = .ok (.if_icmp .ne off, 3)) (ht : (pc : Int) + off = (tgt : Int)) (kt : a ≠ b → W p l e R s m args below meth c H locs cells slots Q (F0 m tgt ls rest)) (kf : a = b → W p l e R s m args below meth c H locs cells slots Q (F0 m (pc + 3) ls rest)) : W p l e R s m args below meth c H locs cells slots Q (F0 m pc ls (.int (nI b) :: .int (nI a) :: rest)) := lv_icmp_ne hx hb hdg ht (fun h => kt (fun q => h ((nI_inj ha hbb).mpr q))) (fun h => kf ((nI_inj ha hbb).mp h))
theorem n_cmp_lt (hx : p.tables.exec = Jvm.exec) (hb : c.code = cc) (ha : a < 2 ^ 31) (hbb : b < 2 ^ 31) (hdg : decode cc pc = .ok (.if_icmp .lt off, 3)) (ht : (pc : Int) + off = (tgt : Int)) (kt : a < b → W p l e R s m args below meth c H locs cells slots Q (F0 m tgt ls rest)) (kf : b ≤ a → W p l e R s m args below meth c H locs cells slots Q (F0 m (pc + 3) ls rest)) : W p l e R s m args below meth c H locs cells slots Q (F0 m pc ls (.int (nI b) :: .int (nI a) :: rest)) := lv_icmp_lt hx hb hdg ht (fun h => kt ((nI_lt_iff ha hbb).mp h)) (fun h => kf (Nat.not_lt.mp (fun q => h ((nI_lt_iff ha hbb).mpr q))))
theorem n_cmp_ge (hx : p.tables.exec = Jvm.exec) (hb : c.code = cc) (ha : a < 2 ^ 31) (hbb : b < 2 ^ 31) (hdg : decode cc pc = .ok (.if_icmp .ge off, 3)) (ht : (pc : Int) + off = (tgt : Int)) (kt : b ≤ a → W p l e R s m args below meth c H locs cells slots Q (F0 m tgt ls rest)) (kf : a < b → W p l e R s m args below meth c H locs cells slots Q (F0 m (pc + 3) ls rest)) : W p l e R s m args below meth c H locs cells slots Q (F0 m pc ls (.int (nI b) :: .int (nI a) :: rest)) := lv_icmp_ge hx hb hdg ht (fun h => kt ((nI_le_iff hbb ha).mp h)) (fun h => kf (Nat.not_le.mp (fun q => h ((nI_le_iff hbb ha).mpr q))))
theorem n_cmp_gt (hx : p.tables.exec = Jvm.exec) (hb : c.code = cc) (ha : a < 2 ^ 31) (hbb : b < 2 ^ 31) (hdg : decode cc pc = .ok (.if_icmp .gt off, 3)) (ht : (pc : Int) + off = (tgt : Int)) (kt : b < a → W p l e R s m args below meth c H locs cells slots Q (F0 m tgt ls rest)) (kf : a ≤ b → W p l e R s m args below meth c H locs cells slots Q (F0 m (pc + 3) ls rest)) : W p l e R s m args below meth c H locs cells slots Q (F0 m pc ls (.int (nI b) :: .int (nI a) :: rest)) := lv_icmp_gt hx hb hdg ht (fun h => kt ((nI_lt_iff hbb ha).mp h)) (fun h => kf (Nat.not_lt.mp (fun q => h ((nI_lt_iff hbb ha).mpr q))))
theorem n_cmp_le (hx : p.tables.exec = Jvm.exec) (hb : c.code = cc) (ha : a < 2 ^ 31) (hbb : b < 2 ^ 31) (hdg : decode cc pc = .ok (.if_icmp .le off, 3)) (ht : (pc : Int) + off = (tgt : Int)) (kt : a ≤ b → W p l e R s m args below meth c H locs cells slots Q (F0 m tgt ls rest)) (kf : b < a → W p l e R s m args below meth c H locs cells slots Q (F0 m (pc + 3) ls rest)) : W p l e R s m args below meth c H locs cells slots Q (F0 m pc ls (.int (nI b) :: .int (nI a) :: rest)) := lv_icmp_le hx hb hdg ht (fun h => kt ((nI_le_iff ha hbb).mp h)) (fun h => kf (Nat.not_le.mp (fun q => h ((nI_le_iff ha hbb).mpr q))))
theorem n_if_eq (hx : p.tables.exec = Jvm.exec) (hb : c.code = cc) (ha : a < 2 ^ 31) (hdg : decode cc pc = .ok (.ifCond .eq off, 3)) (ht : (pc : Int) + off = (tgt : Int)) (kt : a = 0 → W p l e R s m args below meth c H locs cells slots Q (F0 m tgt ls rest)) (kf : 0 < a → W p l e R s m args below meth c H locs cells slots Q (F0 m (pc + 3) ls rest)) : W p l e R s m args below meth c H locs cells slots Q (F0 m pc ls (.int (nI a) :: rest)) := lv_if_eq hx hb hdg ht (fun h => kt ((nI_z ha).mp h)) (fun h => kf (Nat.pos_of_ne_zero (fun q => h ((nI_z ha).mpr q))))
theorem n_if_ne (hx : p.tables.exec = Jvm.exec) (hb : c.code = cc) (ha : a < 2 ^ 31) (hdg : decode cc pc = .ok (.ifCond .ne off, 3)) (ht : (pc : Int) + off = (tgt : Int)) (kt : 0 < a → W p l e R s m args below meth c H locs cells slots Q (F0 m tgt ls rest)) (kf : a = 0 → W p l e R s m args below meth c H locs cells slots Q (F0 m (pc + 3) ls rest)) : W p l e R s m args below meth c H locs cells slots Q (F0 m pc ls (.int (nI a) :: rest)) := lv_if_ne hx hb hdg ht (fun h => kt (Nat.pos_of_ne_zero (fun q => h ((nI_z ha).mpr q)))) (fun h => kf ((nI_z ha).mp h))
theorem n_if_le (hx : p.tables.exec = Jvm.exec) (hb : c.code = cc) (ha : a < 2 ^ 31) (hdg : decode cc pc = .ok (.ifCond .le off, 3)) (ht : (pc : Int) + off = (tgt : Int)) (kt : a = 0 → W p l e R s m args below meth c H locs cells slots Q (F0 m tgt ls rest)) (kf : 0 < a → W p l e R s m args below meth c H locs cells slots Q (F0 m (pc + 3) ls rest)) : W p l e R s m args below meth c H locs cells slots Q (F0 m pc ls (.int (nI a) :: rest)) := lv_if_le hx hb hdg ht (fun h => kt (Nat.le_zero.mp ((nI_le_iff ha (by decide)).mp (by rw [nI_0]; exact h)))) (fun h => kf (Nat.not_le.mp (fun q => h (by rw [← nI_0]; exact (nI_le_iff ha (by decide)).mpr q))))
theorem n_if_gt (hx : p.tables.exec = Jvm.exec) (hb : c.code = cc) (ha : a < 2 ^ 31) (hdg : decode cc pc = .ok (.ifCond .gt off, 3)) (ht : (pc : Int) + off = (tgt : Int)) (kt : 0 < a → W p l e R s m args below meth c H locs cells slots Q (F0 m tgt ls rest)) (kf : a = 0 → W p l e R s m args below meth c H locs cells slots Q (F0 m (pc + 3) ls rest)) : W p l e R s m args below meth c H locs cells slots Q (F0 m pc ls (.int (nI a) :: rest)) := lv_if_gt hx hb hdg ht (fun h => kt ((nI_lt_iff (by decide) ha).mp (by rw [nI_0]; exact h))) (fun h => kf (Nat.le_zero.mp (Nat.not_lt.mp (fun q => h (by rw [← nI_0]; exact (nI_lt_iff (by decide) ha).mpr q)))))
theorem n_if_lt (hx : p.tables.exec = Jvm.exec) (hb : c.code = cc) (ha : a < 2 ^ 31) (hdg : decode cc pc = .ok (.ifCond .lt off, 3)) (kf : W p l e R s m args below meth c H locs cells slots Q (F0 m (pc + 3) ls rest)) (ht : (pc : Int) + off = (tgt : Int)) : W p l e R s m args below meth c H locs cells slots Q (F0 m pc ls (.int (nI a) :: rest)) := lv_if_lt hx hb hdg ht (fun h => absurd h (nI_pos ha)) (fun _ => kf)
theorem n_if_ge (hx : p.tables.exec = Jvm.exec) (hb : c.code = cc) (ha : a < 2 ^ 31) (hdg : decode cc pc = .ok (.ifCond .ge off, 3)) (ht : (pc : Int) + off = (tgt : Int)) (kt : W p l e R s m args below meth c H locs cells slots Q (F0 m tgt ls rest)) : W p l e R s m args below meth c H locs cells slots Q (F0 m pc ls (.int (nI a) :: rest)) := lv_if_ge hx hb hdg ht (fun _ => kt) (fun h => absurd (nI_pos' ha) h)
/-- a count that goes down to -1: its value at j is nI j - 1 -/
theorem n_down_lt (hx : p.tables.exec = Jvm.exec) (hb : c.code = cc) (ha : a < 2 ^ 31) (hdg : decode cc pc = .ok (.ifCond .lt off, 3)) (ht : (pc : Int) + off = (tgt : Int)) (kt : a = 0 → W p l e R s m args below meth c H locs cells slots Q (F0 m tgt ls rest)) (kf : ∀ j, a = j + 1 → W p l e R s m args below meth c H locs cells slots Q (F0 m (pc + 3) ls rest)) : W p l e R s m args below meth c H locs cells slots Q (F0 m pc ls (.int (nI a - nI 1) :: rest)) := by
  cases a with
  | zero => exact lv_if_lt hx hb hdg ht (fun _ => kt rfl) (fun h => absurd (by decide) h)
  | succ j =>
    have e1 : nI (j + 1) - nI 1 = nI j := nI_pred j
    rw [e1]
    exact lv_if_lt hx hb hdg ht (fun h => absurd h (nI_pos (by omega))) (fun _ => kf j rfl)
theorem b_if_eq (hx : p.tables.exec = Jvm.exec) (hb : c.code = cc) {t : Bool} (hdg : decode cc pc = .ok (.ifCond .eq off, 3)) (ht : (pc : Int) + off = (tgt : Int)) (kt : t = false → W p l e R s m args below meth c H locs cells slots Q (F0 m tgt ls rest)) (kf : t = true → W p l e R s m args below meth c H locs cells slots Q (F0 m (pc + 3) ls rest)) : W p l e R s m args below meth c H locs cells slots Q (F0 m pc ls (.int (zb t) :: rest)) := by
  cases t with
  | true => exact lv_if_eq hx hb hdg ht (fun h => absurd h (by decide)) (fun _ => kf rfl)
  | false => exact lv_if_eq hx hb hdg ht (fun _ => kt rfl) (fun h => absurd rfl h)
theorem b_if_ne (hx : p.tables.exec = Jvm.exec) (hb : c.code = cc) {t : Bool} (hdg : decode cc pc = .ok (.ifCond .ne off, 3)) (ht : (pc : Int) + off = (tgt : Int)) (kt : t = true → W p l e R s m args below meth c H locs cells slots Q (F0 m tgt ls rest)) (kf : t = false → W p l e R s m args below meth c H locs cells slots Q (F0 m (pc + 3) ls rest)) : W p l e R s m args below meth c H locs cells slots Q (F0 m pc ls (.int (zb t) :: rest)) := by
  cases t with
  | true => exact lv_if_ne hx hb hdg ht (fun _ => kt rfl) (fun h => absurd h (by decide))
  | false => exact lv_if_ne hx hb hdg ht (fun h => absurd rfl h) (fun _ => kf rfl)
end ZN
