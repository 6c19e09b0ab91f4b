abbrev zW (p : Program) (l : Launch) (e : Env) (k mc ms : Nat) (s : State) (m : MethodId) (av : List Value) (below : List Frame) (meth : Method) (cd : Code) (H : Heap) (locs : List Loc) (cells slots : Nat) (G : zG) (B0 : Nat) (v : Option Value) (post : Mm → Prop) (g : JFrame) : Prop :=
  W p l e (zR k mc ms) s m av.toArray below meth cd H locs cells slots (MQ below (zQ G B0 s.heap.size mc v post) av.toArray s mc ms (fun q => B0 ≤ q)) g
theorem z_gen {p : Program} {l : Launch} {e : Env} {R : Room} {s : State} {m : MethodId} {args : Array Value} {below : List Frame} {meth : Method} {c : Code} {Q : State → Prop} {g : JFrame} {G : zG} {M : Mm} (B0 : Nat) (k : ∀ (H : Heap) (locs : List Loc), zH G M H → zS 0 B0 s.heap H locs → W p l e R s m args below meth c H locs 0 0 Q g) (hH : zH G M s.heap) : W p l e R s m args below meth c s.heap [] 0 0 Q g := k _ _ hH zS.rf
theorem nI_down (j : Nat) : nI (j + 1) - nI 1 = nI j := nI_pred j
def oI : Option Nat → Int32
  | none => -6
  | some j => nI j
theorem oI_none {o : Option Nat} (ho : ∀ j, o = some j → j < 2 ^ 31) : oI o = -6 ↔ o = none := by
  cases o with
  | none => exact ⟨fun _ => rfl, fun _ => rfl⟩
  | some j =>
    refine ⟨fun h => ?_, fun h => by cases h⟩
    have h1 : nI j = -6 := h
    have h2 := congrArg Int32.toInt h1
    rw [nI_toInt (ho j rfl)] at h2
    have h3 : ((-6 : Int32)).toInt = -6 := by decide
    omega
theorem oI_some {o : Option Nat} {b : Nat} (ho : ∀ j, o = some j → j < 2 ^ 31) (hb : b < 2 ^ 31) : oI o = nI b ↔ o = some b := by
  cases o with
  | none =>
    refine ⟨fun h => ?_, fun h => by cases h⟩
    have h1 : (-6 : Int32) = nI b := h
    have h2 := congrArg Int32.toInt h1
    rw [nI_toInt hb] at h2
    have h3 : ((-6 : Int32)).toInt = -6 := by decide
    omega
  | some j =>
    have h0 := nI_inj (ho j rfl) hb
    exact ⟨fun h => congrArg some (h0.mp h), fun h => h0.mpr (Option.some.inj h)⟩
section ZO
variable {p : Program} {l : Launch} {e : Env} {R : Room} {s : State} {m : MethodId} {args : Array Value} {below : List Frame} {meth : Method} {c : Code} {H : Heap} {locs : List Loc} {cells slots : Nat} {Q : State → Prop}
variable {cc : ByteArray} {pc tgt : Nat} {off : Int} {ls : Array Slot} {rest : List Value} {b : Nat} {o : Option Nat}
theorem o_cmp_eq (hx : p.tables.exec = Jvm.exec) (hb : c.code = cc) (ho : ∀ j, o = some j → j < 2 ^ 31) (hdg : decode cc pc = .ok (.if_icmp .eq off, 3)) (ht : (pc : Int) + off = (tgt : Int)) (kt : o = none → W p l e R s m args below meth c H locs cells slots Q (F0 m tgt ls rest)) (kf : ∀ j, o = some j → W p l e R s m args below meth c H locs cells slots Q (F0 m (pc + 3) ls rest)) : W p l e R s m args below meth c H locs cells slots Q (F0 m pc ls (.int (-6) :: .int (oI o) :: rest)) :=
  lv_icmp_eq hx hb hdg ht (fun h => kt ((oI_none ho).mp h)) (fun h => by
    cases o with
    | none => exact absurd rfl h
    | some j => exact kf j rfl)
theorem o_cmp_ne (hx : p.tables.exec = Jvm.exec) (hb : c.code = cc) (ho : ∀ j, o = some j → j < 2 ^ 31) (hdg : decode cc pc = .ok (.if_icmp .ne off, 3)) (ht : (pc : Int) + off = (tgt : Int)) (kt : ∀ j, o = some j → W p l e R s m args below meth c H locs cells slots Q (F0 m tgt ls rest)) (kf : o = none → W p l e R s m args below meth c H locs cells slots Q (F0 m (pc + 3) ls rest)) : W p l e R s m args below meth c H locs cells slots Q (F0 m pc ls (.int (-6) :: .int (oI o) :: rest)) :=
  lv_icmp_ne hx hb hdg ht (fun h => by
    cases o with
    | none => exact absurd rfl h
    | some j => exact kt j rfl) (fun h => kf ((oI_none ho).mp h))
theorem on_cmp_eq (hx : p.tables.exec = Jvm.exec) (hb : c.code = cc) (ho : ∀ j, o = some j → j < 2 ^ 31) (hbb : b < 2 ^ 31) (hdg : decode cc pc = .ok (.if_icmp .eq off, 3)) (ht : (pc : Int) + off = (tgt : Int)) (kt : o = some b → W p l e R s m args below meth c H locs cells slots Q (F0 m tgt ls rest)) (kf : o ≠ some b → W p l e R s m args below meth c H locs cells slots Q (F0 m (pc + 3) ls rest)) : W p l e R s m args below meth c H locs cells slots Q (F0 m pc ls (.int (nI b) :: .int (oI o) :: rest)) :=
  lv_icmp_eq hx hb hdg ht (fun h => kt ((oI_some ho hbb).mp h)) (fun h => kf (fun q => h ((oI_some ho hbb).mpr q)))
theorem on_cmp_ne (hx : p.tables.exec = Jvm.exec) (hb : c.code = cc) (ho : ∀ j, o = some j → j < 2 ^ 31) (hbb : b < 2 ^ 31) (hdg : decode cc pc = .ok (.if_icmp .ne off, 3)) (ht : (pc : Int) + off = (tgt : Int)) (kt : o ≠ some b → W p l e R s m args below meth c H locs cells slots Q (F0 m tgt ls rest)) (kf : o = some b → W p l e R s m args below meth c H locs cells slots Q (F0 m (pc + 3) ls rest)) : W p l e R s m args below meth c H locs cells slots Q (F0 m pc ls (.int (nI b) :: .int (oI o) :: rest)) :=
  lv_icmp_ne hx hb hdg ht (fun h => kt (fun q => h ((oI_some ho hbb).mpr q))) (fun h => kf ((oI_some ho hbb).mp h))
end ZO
/-! what a wall is: one map of naturals, as the check's own row of 818 numbers has it -/
abbrev Wv : Type := Nat → Nat
def pv (v : Wv) (j k : Nat) : Nat := v (14 + 7 * j + k)
def cv (v : Wv) (j c : Nat) : Nat := v (98 + 60 * j + c)
def sv (v : Wv) (x : Nat) : Nat := v (4 + x)
def liesN (f : Nat → Nat) (x y : Nat) : Bool := decide (f 0 ≤ x) && decide (x < f 0 + f 2) && decide (f 1 ≤ y) && decide (y < f 1 + f 3)
/-- a poster is as posters are -/
def pOk (f g : Nat → Nat) : Prop := 1 ≤ f 2 ∧ f 0 + f 2 ≤ 10 ∧ 1 ≤ f 3 ∧ f 1 + f 3 ≤ 6 ∧ 1 ≤ f 4 ∧ f 4 ≤ 999 ∧ ∀ c, c < 60 → g c ≤ 99 ∧ (0 < g c → liesN f (c % 10) (c / 10) = true)
def wOk (v : Wv) : Prop := v 0 ≤ 12 ∧ v 1 ≤ 10500 ∧ (∀ x, x < 10 → sv v x ≤ 9) ∧ ∀ j, j < v 0 → pOk (pv v j) (cv v j)
theorem wOk.coat {v : Wv} (h : wOk v) {j c : Nat} (hj : j < v 0) (hc : c < 60) : cv v j c ≤ 99 := ((h.2.2.2 j hj).2.2.2.2.2.2 c hc).1
theorem wOk.price {v : Wv} (h : wOk v) {j : Nat} (hj : j < v 0) : 1 ≤ pv v j 4 ∧ pv v j 4 ≤ 999 := ⟨(h.2.2.2 j hj).2.2.2.2.1, (h.2.2.2 j hj).2.2.2.2.2.1⟩
theorem wOk.rect {v : Wv} (h : wOk v) {j : Nat} (hj : j < v 0) : 1 ≤ pv v j 2 ∧ pv v j 0 + pv v j 2 ≤ 10 ∧ 1 ≤ pv v j 3 ∧ pv v j 1 + pv v j 3 ≤ 6 := ⟨(h.2.2.2 j hj).1, (h.2.2.2 j hj).2.1, (h.2.2.2 j hj).2.2.1, (h.2.2.2 j hj).2.2.2.1⟩
/-! pictures -/
def Pst (G : zG) (a : Nat) (f g : Nat → Nat) (M : Mm) : Prop :=
  M a = some (.inr (3, [.int (nI (f 0)), .int (nI (f 1)), .int (nI (f 2)), .int (nI (f 3)), .int (nI (f 4)), .int (nI (f 5)), .int (nI (f 6)), .ref (a + 1)])) ∧ zArr G 0 M (a + 1) 60 (fun c => nI (g c))
theorem Pst.kept {G : zG} {a : Nat} {f g : Nat → Nat} {M M1 : Mm} (h : Pst G a f g M) (h1 : M1 a = M a) (h2 : M1 (a + 1) = M (a + 1)) : Pst G a f g M1 := ⟨by rw [h1]; exact h.1, h.2.kept h2⟩
def WlR (G : zG) (w : Nat) (r : Nat → Nat) (v : Wv) (M : Mm) : Prop :=
  M w = some (.inr (4, [.ref (w + 1), .int (nI (v 0)), .ref (w + 26), .int (nI (v 1)), .int (nI (v 2)), .int (nI (v 3))])) ∧
  zRef G 1 M (w + 1) 12 (fun j => w + 2 + 2 * r j) ∧ zArr G 0 M (w + 26) 10 (fun x => nI (sv v x)) ∧
  (∀ j, j < 12 → ∃ f g, Pst G (w + 2 + 2 * r j) f g M) ∧ ∀ j, j < v 0 → Pst G (w + 2 + 2 * r j) (pv v j) (cv v j) M
def rOk (r : Nat → Nat) : Prop := (∀ j, j < 12 → r j < 12) ∧ ∀ i j, i < 12 → j < 12 → r i = r j → i = j
def Wl (G : zG) (w : Nat) (v : Wv) (M : Mm) : Prop := ∃ r, rOk r ∧ WlR G w r v M
theorem WlR.kept {G : zG} {w : Nat} {r : Nat → Nat} {v : Wv} {M M1 : Mm} (hr : rOk r) (hn : v 0 ≤ 12) (h : WlR G w r v M) (hq : ∀ q, w ≤ q → q < w + 27 → M1 q = M q) : WlR G w r v M1 := by
  obtain ⟨h1, h2, h3, h4, h5⟩ := h
  refine ⟨by rw [hq w (by omega) (by omega)]; exact h1, h2.kept (hq _ (by omega) (by omega)), h3.kept (hq _ (by omega) (by omega)), fun j hj => ?_, fun j hj => ?_⟩
  · obtain ⟨f, g, h⟩ := h4 j hj
    have := hr.1 j hj
    exact ⟨f, g, h.kept (hq _ (by omega) (by omega)) (hq _ (by omega) (by omega))⟩
  · have := hr.1 j (by omega)
    exact (h5 j hj).kept (hq _ (by omega) (by omega)) (hq _ (by omega) (by omega))
theorem Wl.kept {G : zG} {w : Nat} {v : Wv} {M M1 : Mm} (hn : v 0 ≤ 12) (h : Wl G w v M) (hq : ∀ q, w ≤ q → q < w + 27 → M1 q = M q) : Wl G w v M1 := by
  obtain ⟨r, hr, h⟩ := h
  exact ⟨r, hr, h.kept hr hn hq⟩
/-! what is seen -/
def seenGo (v : Wv) (but : Int32) (c : Nat) : Nat → Option Nat
  | 0 => none
  | j + 1 => if nI j ≠ but ∧ 0 < cv v j c then some j else seenGo v but c j
def seen (v : Wv) (but : Int32) (c : Nat) : Option Nat := seenGo v but c (v 0)
theorem seenGo_some {v : Wv} {but : Int32} {c : Nat} : ∀ {n j : Nat}, seenGo v but c n = some j → j < n ∧ 0 < cv v j c ∧ nI j ≠ but
  | 0, _, h => by cases h
  | n + 1, j, h => by
    unfold seenGo at h
    split at h
    · next h1 => cases h; exact ⟨by omega, h1.2, h1.1⟩
    · have := seenGo_some h; exact ⟨by omega, this.2⟩
theorem seen_lt {v : Wv} {but : Int32} {c j : Nat} (h : seen v but c = some j) : j < v 0 := (seenGo_some h).1
theorem seen_pos {v : Wv} {but : Int32} {c j : Nat} (h : seen v but c = some j) : 0 < cv v j c := (seenGo_some h).2.1
theorem seen_ob {v : Wv} (hv : wOk v) {but : Int32} {c : Nat} : ∀ j, seen v but c = some j → j < 2 ^ 31 := fun j h => by
  have h1 := seen_lt h
  have h2 := hv.1
  omega
/-- the price that a cell shows, with one poster left out -/
def prc (v : Wv) (but : Int32) (c : Nat) : Option Nat := (seen v but c).map (fun j => pv v j 4)
def zsum (f : Nat → Nat) : Nat → Nat
  | 0 => 0
  | k + 1 => zsum f k + f k
def zcnt (f : Nat → Bool) : Nat → Nat
  | 0 => 0
  | k + 1 => zcnt f k + if f k then 1 else 0
theorem zcnt_le (f : Nat → Bool) : ∀ n, zcnt f n ≤ n
  | 0 => Nat.le_refl _
  | n + 1 => by have := zcnt_le f n; unfold zcnt; split <;> omega
theorem zsum_le {f : Nat → Nat} {b : Nat} : ∀ {n : Nat}, (∀ k, k < n → f k ≤ b) → zsum f n ≤ n * b
  | 0, _ => by simp [zsum]
  | n + 1, h => by
    have h1 := zsum_le (f := f) (b := b) (n := n) (fun k hk => h k (by omega))
    have h2 := h n (by omega)
    unfold zsum
    rw [Nat.succ_mul]
    omega
theorem zsum_cong {f g : Nat → Nat} : ∀ {n : Nat}, (∀ k, k < n → f k = g k) → zsum f n = zsum g n
  | 0, _ => rfl
  | n + 1, h => by unfold zsum; rw [zsum_cong (fun k hk => h k (by omega)), h n (by omega)]
theorem zcnt_cong {f g : Nat → Bool} : ∀ {n : Nat}, (∀ k, k < n → f k = g k) → zcnt f n = zcnt g n
  | 0, _ => rfl
  | n + 1, h => by unfold zcnt; rw [zcnt_cong (fun k hk => h k (by omega)), h n (by omega)]
def sumW (v : Wv) (but : Int32) : Nat := zsum (fun c => (prc v but c).getD 0) 60
def seenCnt (v : Wv) (j : Nat) : Nat := zcnt (fun c => decide (seen v (-6) c = some j)) 60
