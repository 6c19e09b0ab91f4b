abbrev zW (p : Program) (l : Launch) (e : Env) (k mc ms : Nat) (s : State) (m : MethodId) (av : List Value) (below : List Frame) (meth : Method) (cd : Code) (H : Heap) (locs : List Loc) (cells slots : Nat) (G : zG) (B0 : Nat) (v : Option Value) (post : Mm → Prop) (g : JFrame) : Prop :=
  W p l e (zR k mc ms) s m av.toArray below meth cd H locs cells slots (MQ below (zQ G B0 s.heap.size mc v post) av.toArray s mc ms (fun q => B0 ≤ q)) g
theorem z_gen {p : Program} {l : Launch} {e : Env} {R : Room} {s : State} {m : MethodId} {args : Array Value} {below : List Frame} {meth : Method} {c : Code} {Q : State → Prop} {g : JFrame} {G : zG} {M : Mm} (B0 : Nat) (k : ∀ (H : Heap) (locs : List Loc), zH G M H → zS 0 B0 s.heap H locs → W p l e R s m args below meth c H locs 0 0 Q g) (hH : zH G M s.heap) : W p l e R s m args below meth c s.heap [] 0 0 Q g := k _ _ hH zS.rf
theorem nI_down (j : Nat) : nI (j + 1) - nI 1 = nI j := nI_pred j
theorem nI_dec1 (j : Nat) : nI j + Int32.ofInt (-1) = nI j - nI 1 := by
  rw [Int32.sub_eq_add_neg]
  have h : Int32.ofInt (-1) = -nI 1 := by decide
  rw [h]
def oI : Option Nat → Int32
  | none => -6
  | some j => nI j
theorem oI_none {o : Option Nat} (ho : ∀ j, o = some j → j < 2 ^ 31) : oI o = -6 ↔ o = none := by
  cases o with
  | none => exact ⟨fun _ => rfl, fun _ => rfl⟩
  | some j =>
    refine ⟨fun h => ?_, fun h => by cases h⟩
    have h1 : nI j = -6 := h
    have h2 := congrArg Int32.toInt h1
    rw [nI_toInt (ho j rfl)] at h2
    have h3 : ((-6 : Int32)).toInt = -6 := by decide
    omega
theorem oI_some {o : Option Nat} {b : Nat} (ho : ∀ j, o = some j → j < 2 ^ 31) (hb : b < 2 ^ 31) : oI o = nI b ↔ o = some b := by
  cases o with
  | none =>
    refine ⟨fun h => ?_, fun h => by cases h⟩
    have h1 : (-6 : Int32) = nI b := h
    have h2 := congrArg Int32.toInt h1
    rw [nI_toInt hb] at h2
    have h3 : ((-6 : Int32)).toInt = -6 := by decide
    omega
  | some j =>
    have h0 := nI_inj (ho j rfl) hb
    exact ⟨fun h => congrArg some (h0.mp h), fun h => h0.mpr (Option.some.inj h)⟩
section ZO
variable {p : Program} {l : Launch} {e : Env} {R : Room} {s : State} {m : MethodId} {args : Array Value} {below : List Frame} {meth : Method} {c : Code} {H : Heap} {locs : List Loc} {cells slots : Nat} {Q : State → Prop}
variable {cc : ByteArray} {pc tgt : Nat} {off : Int} {ls : Array Slot} {rest : List Value} {b : Nat} {o : Option Nat}
theorem o_cmp_eq (hx : p.tables.exec = Jvm.exec) (hb : c.code = cc) (ho : ∀ j, o = some j → j < 2 ^ 31) (hdg : decode cc pc = .ok (.if_icmp .eq off, 3)) (ht : (pc : Int) + off = (tgt : Int)) (kt : o = none → W p l e R s m args below meth c H locs cells slots Q (F0 m tgt ls rest)) (kf : ∀ j, o = some j → W p l e R s m args below meth c H locs cells slots Q (F0 m (pc + 3) ls rest)) : W p l e R s m args below meth c H locs cells slots Q (F0 m pc ls (.int (-6) :: .int (oI o) :: rest)) :=
  lv_icmp_eq hx hb hdg ht (fun h => kt ((oI_none ho).mp h)) (fun h => by
    cases o with
    | none => exact absurd rfl h
    | some j => exact kf j rfl)
theorem o_cmp_ne (hx : p.tables.exec = Jvm.exec) (hb : c.code = cc) (ho : ∀ j, o = some j → j < 2 ^ 31) (hdg : decode cc pc = .ok (.if_icmp .ne off, 3)) (ht : (pc : Int) + off = (tgt : Int)) (kt : ∀ j, o = some j → W p l e R s m args below meth c H locs cells slots Q (F0 m tgt ls rest)) (kf : o = none → W p l e R s m args below meth c H locs cells slots Q (F0 m (pc + 3) ls rest)) : W p l e R s m args below meth c H locs cells slots Q (F0 m pc ls (.int (-6) :: .int (oI o) :: rest)) :=
  lv_icmp_ne hx hb hdg ht (fun h => by
    cases o with
    | none => exact absurd rfl h
    | some j => exact kt j rfl) (fun h => kf ((oI_none ho).mp h))
theorem on_cmp_eq (hx : p.tables.exec = Jvm.exec) (hb : c.code = cc) (ho : ∀ j, o = some j → j < 2 ^ 31) (hbb : b < 2 ^ 31) (hdg : decode cc pc = .ok (.if_icmp .eq off, 3)) (ht : (pc : Int) + off = (tgt : Int)) (kt : o = some b → W p l e R s m args below meth c H locs cells slots Q (F0 m tgt ls rest)) (kf : o ≠ some b → W p l e R s m args below meth c H locs cells slots Q (F0 m (pc + 3) ls rest)) : W p l e R s m args below meth c H locs cells slots Q (F0 m pc ls (.int (nI b) :: .int (oI o) :: rest)) :=
  lv_icmp_eq hx hb hdg ht (fun h => kt ((oI_some ho hbb).mp h)) (fun h => kf (fun q => h ((oI_some ho hbb).mpr q)))
theorem on_cmp_ne (hx : p.tables.exec = Jvm.exec) (hb : c.code = cc) (ho : ∀ j, o = some j → j < 2 ^ 31) (hbb : b < 2 ^ 31) (hdg : decode cc pc = .ok (.if_icmp .ne off, 3)) (ht : (pc : Int) + off = (tgt : Int)) (kt : o ≠ some b → W p l e R s m args below meth c H locs cells slots Q (F0 m tgt ls rest)) (kf : o = some b → W p l e R s m args below meth c H locs cells slots Q (F0 m (pc + 3) ls rest)) : W p l e R s m args below meth c H locs cells slots Q (F0 m pc ls (.int (nI b) :: .int (oI o) :: rest)) :=
  lv_icmp_ne hx hb hdg ht (fun h => kt (fun q => h ((oI_some ho hbb).mpr q))) (fun h => kf ((oI_some ho hbb).mp h))
end ZO
/-! what a wall is: one map of naturals, as the check's own row of 818 numbers has it -/
abbrev Wv : Type := Nat → Nat
def pv (v : Wv) (j k : Nat) : Nat := v (14 + 7 * j + k)
def cv (v : Wv) (j c : Nat) : Nat := v (98 + 60 * j + c)
def sv (v : Wv) (x : Nat) : Nat := v (4 + x)
def liesN (f : Nat → Nat) (x y : Nat) : Bool := decide (f 0 ≤ x) && decide (x < f 0 + f 2) && decide (f 1 ≤ y) && decide (y < f 1 + f 3)
/-- a poster is as posters are -/
def pOk (f g : Nat → Nat) : Prop := 1 ≤ f 2 ∧ f 0 + f 2 ≤ 10 ∧ 1 ≤ f 3 ∧ f 1 + f 3 ≤ 6 ∧ 1 ≤ f 4 ∧ f 4 ≤ 999 ∧ ∀ c, c < 60 → g c ≤ 99 ∧ (0 < g c → liesN f (c % 10) (c / 10) = true)
def wOk (v : Wv) : Prop := v 0 ≤ 12 ∧ v 1 ≤ 10500 ∧ (∀ x, x < 10 → sv v x ≤ 9) ∧ ∀ j, j < v 0 → pOk (pv v j) (cv v j)
theorem wOk.coat {v : Wv} (h : wOk v) {j c : Nat} (hj : j < v 0) (hc : c < 60) : cv v j c ≤ 99 := ((h.2.2.2 j hj).2.2.2.2.2.2 c hc).1
theorem wOk.price {v : Wv} (h : wOk v) {j : Nat} (hj : j < v 0) : 1 ≤ pv v j 4 ∧ pv v j 4 ≤ 999 := ⟨(h.2.2.2 j hj).2.2.2.2.1, (h.2.2.2 j hj).2.2.2.2.2.1⟩
theorem wOk.rect {v : Wv} (h : wOk v) {j : Nat} (hj : j < v 0) : 1 ≤ pv v j 2 ∧ pv v j 0 + pv v j 2 ≤ 10 ∧ 1 ≤ pv v j 3 ∧ pv v j 1 + pv v j 3 ≤ 6 := ⟨(h.2.2.2 j hj).1, (h.2.2.2 j hj).2.1, (h.2.2.2 j hj).2.2.1, (h.2.2.2 j hj).2.2.2.1⟩
/-! pictures -/
def Pst (G : zG) (a : Nat) (f g : Nat → Nat) (M : Mm) : Prop :=
  M a = some (.inr (3, [.int (nI (f 0)), .int (nI (f 1)), .int (nI (f 2)), .int (nI (f 3)), .int (nI (f 4)), .int (nI (f 5)), .int (nI (f 6)), .ref (a + 1)])) ∧ zArr G 0 M (a + 1) 60 (fun c => nI (g c))
theorem Pst.kept {G : zG} {a : Nat} {f g : Nat → Nat} {M M1 : Mm} (h : Pst G a f g M) (h1 : M1 a = M a) (h2 : M1 (a + 1) = M (a + 1)) : Pst G a f g M1 := ⟨by rw [h1]; exact h.1, h.2.kept h2⟩
def WlR (G : zG) (w : Nat) (r : Nat → Nat) (v : Wv) (M : Mm) : Prop :=
  M w = some (.inr (4, [.ref (w + 1), .int (nI (v 0)), .ref (w + 26), .int (nI (v 1)), .int (nI (v 2)), .int (nI (v 3))])) ∧
  zRef G 1 M (w + 1) 12 (fun j => w + 2 + 2 * r j) ∧ zArr G 0 M (w + 26) 10 (fun x => nI (sv v x)) ∧
  (∀ j, j < 12 → ∃ f g, Pst G (w + 2 + 2 * r j) f g M) ∧ ∀ j, j < v 0 → Pst G (w + 2 + 2 * r j) (pv v j) (cv v j) M
def rOk (r : Nat → Nat) : Prop := (∀ j, j < 12 → r j < 12) ∧ ∀ i j, i < 12 → j < 12 → r i = r j → i = j
def Wl (G : zG) (w : Nat) (v : Wv) (M : Mm) : Prop := ∃ r, rOk r ∧ WlR G w r v M
theorem WlR.kept {G : zG} {w : Nat} {r : Nat → Nat} {v : Wv} {M M1 : Mm} (hr : rOk r) (hn : v 0 ≤ 12) (h : WlR G w r v M) (hq : ∀ q, w ≤ q → q < w + 27 → M1 q = M q) : WlR G w r v M1 := by
  obtain ⟨h1, h2, h3, h4, h5⟩ := h
  refine ⟨by rw [hq w (by omega) (by omega)]; exact h1, h2.kept (hq _ (by omega) (by omega)), h3.kept (hq _ (by omega) (by omega)), fun j hj => ?_, fun j hj => ?_⟩
  · obtain ⟨f, g, h⟩ := h4 j hj
    have := hr.1 j hj
    exact ⟨f, g, h.kept (hq _ (by omega) (by omega)) (hq _ (by omega) (by omega))⟩
  · have := hr.1 j (by omega)
    exact (h5 j hj).kept (hq _ (by omega) (by omega)) (hq _ (by omega) (by omega))
theorem Wl.kept {G : zG} {w : Nat} {v : Wv} {M M1 : Mm} (hn : v 0 ≤ 12) (h : Wl G w v M) (hq : ∀ q, w ≤ q → q < w + 27 → M1 q = M q) : Wl G w v M1 := by
  obtain ⟨r, hr, h⟩ := h
  exact ⟨r, hr, h.kept hr hn hq⟩
/-! what is seen -/
def seenGo (v : Wv) (but : Int32) (c : Nat) : Nat → Option Nat
  | 0 => none
  | j + 1 => if nI j ≠ but ∧ 0 < cv v j c then some j else seenGo v but c j
def seen (v : Wv) (but : Int32) (c : Nat) : Option Nat := seenGo v but c (v 0)
theorem seenGo_some {v : Wv} {but : Int32} {c : Nat} : ∀ {n j : Nat}, seenGo v but c n = some j → j < n ∧ 0 < cv v j c ∧ nI j ≠ but
  | 0, _, h => by cases h
  | n + 1, j, h => by
    unfold seenGo at h
    split at h
    · next h1 => cases h; exact ⟨by omega, h1.2, h1.1⟩
    · have := seenGo_some h; exact ⟨by omega, this.2⟩
theorem seen_lt {v : Wv} {but : Int32} {c j : Nat} (h : seen v but c = some j) : j < v 0 := (seenGo_some h).1
theorem seen_pos {v : Wv} {but : Int32} {c j : Nat} (h : seen v but c = some j) : 0 < cv v j c := (seenGo_some h).2.1
theorem seen_ob {v : Wv} (hv : wOk v) {but : Int32} {c : Nat} : ∀ j, seen v but c = some j → j < 2 ^ 31 := fun j h => by
  have h1 := seen_lt h
  have h2 := hv.1
  omega
/-- the price that a cell shows, with one poster left out -/
def prc (v : Wv) (but : Int32) (c : Nat) : Option Nat := (seen v but c).map (fun j => pv v j 4)
def zsum (f : Nat → Nat) : Nat → Nat
  | 0 => 0
  | k + 1 => zsum f k + f k
def zcnt (f : Nat → Bool) : Nat → Nat
  | 0 => 0
  | k + 1 => zcnt f k + if f k then 1 else 0
theorem zcnt_le (f : Nat → Bool) : ∀ n, zcnt f n ≤ n
  | 0 => Nat.le_refl _
  | n + 1 => by have := zcnt_le f n; unfold zcnt; split <;> omega
theorem zsum_le {f : Nat → Nat} {b : Nat} : ∀ {n : Nat}, (∀ k, k < n → f k ≤ b) → zsum f n ≤ n * b
  | 0, _ => by simp [zsum]
  | n + 1, h => by
    have h1 := zsum_le (f := f) (b := b) (n := n) (fun k hk => h k (by omega))
    have h2 := h n (by omega)
    unfold zsum
    rw [Nat.succ_mul]
    omega
theorem zsum_cong {f g : Nat → Nat} : ∀ {n : Nat}, (∀ k, k < n → f k = g k) → zsum f n = zsum g n
  | 0, _ => rfl
  | n + 1, h => by unfold zsum; rw [zsum_cong (fun k hk => h k (by omega)), h n (by omega)]
theorem zcnt_cong {f g : Nat → Bool} : ∀ {n : Nat}, (∀ k, k < n → f k = g k) → zcnt f n = zcnt g n
  | 0, _ => rfl
  | n + 1, h => by unfold zcnt; rw [zcnt_cong (fun k hk => h k (by omega)), h n (by omega)]
def sumW (v : Wv) (but : Int32) : Nat := zsum (fun c => (prc v but c).getD 0) 60
def seenCnt (v : Wv) (j : Nat) : Nat := zcnt (fun c => decide (seen v (-6) c = some j)) 60
/-! callees -/
theorem ca_X5_init : zCai yX5_init cX5_init 2 0 := ⟨co_X5_init, im_X5_init, ini_X5, rfl, by decide, by decide, by decide +kernel⟩
theorem ca_X4_init : zCai yX4_init cX4_init 2 0 := ⟨co_X4_init, im_X4_init, ini_X4, rfl, by decide, by decide, by decide +kernel⟩
theorem ca_X3_init : zCai yX3_init cX3_init 1 0 := ⟨co_X3_init, im_X3_init, ini_X3, rfl, by decide, by decide, by decide +kernel⟩
theorem ca_X1_init : zCai yX1_init cX1_init 2 0 := ⟨co_X1_init, im_X1_init, ini_X1, rfl, by decide, by decide, by decide +kernel⟩
theorem ca_X2_init : zCai yX2_init cX2_init 1 0 := ⟨co_X2_init, im_X2_init, ini_X2, rfl, by decide, by decide, by decide +kernel⟩
theorem ca_X0_init : zCai yX0_init cX0_init 1 0 := ⟨co_X0_init, im_X0_init, ini_X0, rfl, by decide, by decide, by decide +kernel⟩
theorem ca_X5_paste : zCal yX5_paste cX5_paste 7 (some .int) 6 := ⟨co_X5_paste, im_X5_paste, se_X5_paste, ini_X5, by decide, by decide, by decide +kernel⟩
theorem ca_X5_isCell : zCas yX5_isCell cX5_isCell 2 (some .boolean) 2 := ⟨co_X5_isCell, st_X5_isCell, ini_X5, by decide, by decide, by decide +kernel⟩
theorem ca_X5_isColumn : zCas yX5_isColumn cX5_isColumn 1 (some .boolean) 1 := ⟨co_X5_isColumn, st_X5_isColumn, ini_X5, by decide, by decide, by decide +kernel⟩
theorem ca_X5_isWithin : zCas yX5_isWithin cX5_isWithin 3 (some .boolean) 3 := ⟨co_X5_isWithin, st_X5_isWithin, ini_X5, by decide, by decide, by decide +kernel⟩
theorem ca_X1_keep : zCal yX1_keep cX1_keep 2 none 1 := ⟨co_X1_keep, im_X1_keep, se_X1_keep, ini_X1, by decide, by decide, by decide +kernel⟩
theorem ca_X1_dropOldest : zCal yX1_dropOldest cX1_dropOldest 3 none 0 := ⟨co_X1_dropOldest, im_X1_dropOldest, se_X1_dropOldest, ini_X1, by decide, by decide, by decide +kernel⟩
theorem ca_X4_copyFrom : zCal yX4_copyFrom cX4_copyFrom 3 none 1 := ⟨co_X4_copyFrom, im_X4_copyFrom, se_X4_copyFrom, ini_X4, by decide, by decide, by decide +kernel⟩
theorem ca_X3_copyFrom : zCal yX3_copyFrom cX3_copyFrom 2 none 1 := ⟨co_X3_copyFrom, im_X3_copyFrom, se_X3_copyFrom, ini_X3, by decide, by decide, by decide +kernel⟩
theorem ca_X3_cover : zCal yX3_cover cX3_cover 5 none 4 := ⟨co_X3_cover, im_X3_cover, se_X3_cover, ini_X3, by decide, by decide, by decide +kernel⟩
theorem ca_X4_addOnTop : zCal yX4_addOnTop cX4_addOnTop 8 (some .int) 6 := ⟨co_X4_addOnTop, im_X4_addOnTop, se_X4_addOnTop, ini_X4, by decide, by decide, by decide +kernel⟩
theorem ca_X3_begin : zCal yX3_begin cX3_begin 4 none 2 := ⟨co_X3_begin, im_X3_begin, se_X3_begin, ini_X3, by decide, by decide, by decide +kernel⟩
theorem ca_X3_liesAt : zCal yX3_liesAt cX3_liesAt 3 (some .boolean) 2 := ⟨co_X3_liesAt, im_X3_liesAt, se_X3_liesAt, ini_X3, by decide, by decide, by decide +kernel⟩
theorem ca_X5_tear : zCal yX5_tear cX5_tear 3 (some .int) 1 := ⟨co_X5_tear, im_X5_tear, se_X5_tear, ini_X5, by decide, by decide, by decide +kernel⟩
theorem ca_X5_isPoster : zCal yX5_isPoster cX5_isPoster 2 (some .boolean) 1 := ⟨co_X5_isPoster, im_X5_isPoster, se_X5_isPoster, ini_X5, by decide, by decide, by decide +kernel⟩
theorem ca_X4_seenCellsOf : zCal yX4_seenCellsOf cX4_seenCellsOf 4 (some .int) 1 := ⟨co_X4_seenCellsOf, im_X4_seenCellsOf, se_X4_seenCellsOf, ini_X4, by decide, by decide, by decide +kernel⟩
theorem ca_X4_seenAt : zCal yX4_seenAt cX4_seenAt 2 (some .int) 1 := ⟨co_X4_seenAt, im_X4_seenAt, se_X4_seenAt, ini_X4, by decide, by decide, by decide +kernel⟩
theorem ca_X4_seenWithout : zCal yX4_seenWithout cX4_seenWithout 4 (some .int) 2 := ⟨co_X4_seenWithout, im_X4_seenWithout, se_X4_seenWithout, ini_X4, by decide, by decide, by decide +kernel⟩
theorem ca_X4_takeDown : zCal yX4_takeDown cX4_takeDown 4 none 1 := ⟨co_X4_takeDown, im_X4_takeDown, se_X4_takeDown, ini_X4, by decide, by decide, by decide +kernel⟩
theorem ca_X5_coat : zCal yX5_coat cX5_coat 3 (some .int) 2 := ⟨co_X5_coat, im_X5_coat, se_X5_coat, ini_X5, by decide, by decide, by decide +kernel⟩
theorem ca_X4_coatSeenCells : zCal yX4_coatSeenCells cX4_coatSeenCells 6 (some .int) 2 := ⟨co_X4_coatSeenCells, im_X4_coatSeenCells, se_X4_coatSeenCells, ini_X4, by decide, by decide, by decide +kernel⟩
theorem ca_X5_scrape : zCal yX5_scrape cX5_scrape 5 (some .int) 3 := ⟨co_X5_scrape, im_X5_scrape, se_X5_scrape, ini_X5, by decide, by decide, by decide +kernel⟩
theorem ca_X5_cellAt : zCas yX5_cellAt cX5_cellAt 2 (some .int) 2 := ⟨co_X5_cellAt, st_X5_cellAt, ini_X5, by decide, by decide, by decide +kernel⟩
theorem ca_X4_priceAt : zCal yX4_priceAt cX4_priceAt 3 (some .int) 1 := ⟨co_X4_priceAt, im_X4_priceAt, se_X4_priceAt, ini_X4, by decide, by decide, by decide +kernel⟩
theorem ca_X4_scrapeAt : zCal yX4_scrapeAt cX4_scrapeAt 8 (some .int) 2 := ⟨co_X4_scrapeAt, im_X4_scrapeAt, se_X4_scrapeAt, ini_X4, by decide, by decide, by decide +kernel⟩
theorem ca_X5_sun : zCal yX5_sun cX5_sun 4 (some .int) 2 := ⟨co_X5_sun, im_X5_sun, se_X5_sun, ini_X5, by decide, by decide, by decide +kernel⟩
theorem ca_X5_buy : zCal yX5_buy cX5_buy 6 (some .int) 3 := ⟨co_X5_buy, im_X5_buy, se_X5_buy, ini_X5, by decide, by decide, by decide +kernel⟩
theorem ca_X4_sellAt : zCal yX4_sellAt cX4_sellAt 5 (some .boolean) 2 := ⟨co_X4_sellAt, im_X4_sellAt, se_X4_sellAt, ini_X4, by decide, by decide, by decide +kernel⟩
theorem ca_X5_buyAll : zCal yX5_buyAll cX5_buyAll 2 (some .int) 0 := ⟨co_X5_buyAll, im_X5_buyAll, se_X5_buyAll, ini_X5, by decide, by decide, by decide +kernel⟩
theorem ca_X2_firstFault : zCal yX2_firstFault cX2_firstFault 2 (some .int) 0 := ⟨co_X2_firstFault, im_X2_firstFault, se_X2_firstFault, ini_X2, by decide, by decide, by decide +kernel⟩
theorem ca_X0_begin : zCal yX0_begin cX0_begin 1 none 0 := ⟨co_X0_begin, im_X0_begin, se_X0_begin, ini_X0, by decide, by decide, by decide +kernel⟩
theorem ca_X0_takes : zCal yX0_takes cX0_takes 3 (some .boolean) 1 := ⟨co_X0_takes, im_X0_takes, se_X0_takes, ini_X0, by decide, by decide, by decide +kernel⟩
theorem ca_X0_endsBuyer : zCal yX0_endsBuyer cX0_endsBuyer 1 (some .boolean) 0 := ⟨co_X0_endsBuyer, im_X0_endsBuyer, se_X0_endsBuyer, ini_X0, by decide, by decide, by decide +kernel⟩
theorem ca_X0_lengthensPurse : zCal yX0_lengthensPurse cX0_lengthensPurse 2 (some .boolean) 1 := ⟨co_X0_lengthensPurse, im_X0_lengthensPurse, se_X0_lengthensPurse, ini_X0, by decide, by decide, by decide +kernel⟩
theorem ca_X0_mayEnd : zCal yX0_mayEnd cX0_mayEnd 1 (some .boolean) 0 := ⟨co_X0_mayEnd, im_X0_mayEnd, se_X0_mayEnd, ini_X0, by decide, by decide, by decide +kernel⟩
theorem ca_X2_sendBuyersTo : zCal yX2_sendBuyersTo cX2_sendBuyersTo 5 (some .int) 1 := ⟨co_X2_sendBuyersTo, im_X2_sendBuyersTo, se_X2_sendBuyersTo, ini_X2, by decide, by decide, by decide +kernel⟩
theorem ca_X0_pays : zCal yX0_pays cX0_pays 2 (some .boolean) 1 := ⟨co_X0_pays, im_X0_pays, se_X0_pays, ini_X0, by decide, by decide, by decide +kernel⟩
theorem ca_X5_pass : zCal yX5_pass cX5_pass 2 (some .int) 1 := ⟨co_X5_pass, im_X5_pass, se_X5_pass, ini_X5, by decide, by decide, by decide +kernel⟩
theorem ca_X4_fade : zCal yX4_fade cX4_fade 4 (some .int) 1 := ⟨co_X4_fade, im_X4_fade, se_X4_fade, ini_X4, by decide, by decide, by decide +kernel⟩
theorem ca_X4_fadeAt : zCal yX4_fadeAt cX4_fadeAt 8 (some .int) 2 := ⟨co_X4_fadeAt, im_X4_fadeAt, se_X4_fadeAt, ini_X4, by decide, by decide, by decide +kernel⟩
theorem ca_X4_daysToClear : zCal yX4_daysToClear cX4_daysToClear 5 (some .int) 2 := ⟨co_X4_daysToClear, im_X4_daysToClear, se_X4_daysToClear, ini_X4, by decide, by decide, by decide +kernel⟩
theorem ca_X5_cell : zCal yX5_cell cX5_cell 5 (some .int) 3 := ⟨co_X5_cell, im_X5_cell, se_X5_cell, ini_X5, by decide, by decide, by decide +kernel⟩
theorem ca_X4_seenVarnishAt : zCal yX4_seenVarnishAt cX4_seenVarnishAt 3 (some .int) 1 := ⟨co_X4_seenVarnishAt, im_X4_seenVarnishAt, se_X4_seenVarnishAt, ini_X4, by decide, by decide, by decide +kernel⟩
theorem ca_X4_postersAt : zCal yX4_postersAt cX4_postersAt 5 (some .int) 2 := ⟨co_X4_postersAt, im_X4_postersAt, se_X4_postersAt, ini_X4, by decide, by decide, by decide +kernel⟩
theorem ca_X4_notClearAt : zCal yX4_notClearAt cX4_notClearAt 4 (some .int) 1 := ⟨co_X4_notClearAt, im_X4_notClearAt, se_X4_notClearAt, ini_X4, by decide, by decide, by decide +kernel⟩
theorem ca_X5_poster : zCal yX5_poster cX5_poster 4 (some .int) 2 := ⟨co_X5_poster, im_X5_poster, se_X5_poster, ini_X5, by decide, by decide, by decide +kernel⟩
theorem ca_X3_clearCells : zCal yX3_clearCells cX3_clearCells 1 (some .int) 0 := ⟨co_X3_clearCells, im_X3_clearCells, se_X3_clearCells, ini_X3, by decide, by decide, by decide +kernel⟩
theorem ca_X3_notClearCells : zCal yX3_notClearCells cX3_notClearCells 3 (some .int) 0 := ⟨co_X3_notClearCells, im_X3_notClearCells, se_X3_notClearCells, ini_X3, by decide, by decide, by decide +kernel⟩
theorem ca_X3_allVarnish : zCal yX3_allVarnish cX3_allVarnish 3 (some .int) 0 := ⟨co_X3_allVarnish, im_X3_allVarnish, se_X3_allVarnish, ini_X3, by decide, by decide, by decide +kernel⟩
theorem ca_X5_varnish : zCal yX5_varnish cX5_varnish 5 (some .int) 3 := ⟨co_X5_varnish, im_X5_varnish, se_X5_varnish, ini_X5, by decide, by decide, by decide +kernel⟩
theorem ca_X5_count : zCal yX5_count cX5_count 2 (some .int) 1 := ⟨co_X5_count, im_X5_count, se_X5_count, ini_X5, by decide, by decide, by decide +kernel⟩
theorem ca_X4_cellsWithPrice : zCal yX4_cellsWithPrice cX4_cellsWithPrice 3 (some .int) 0 := ⟨co_X4_cellsWithPrice, im_X4_cellsWithPrice, se_X4_cellsWithPrice, ini_X4, by decide, by decide, by decide +kernel⟩
theorem ca_X4_unlikePrices : zCal yX4_unlikePrices cX4_unlikePrices 3 (some .int) 0 := ⟨co_X4_unlikePrices, im_X4_unlikePrices, se_X4_unlikePrices, ini_X4, by decide, by decide, by decide +kernel⟩
theorem ca_X4_isPriceSeenBelow : zCal yX4_isPriceSeenBelow cX4_isPriceSeenBelow 3 (some .boolean) 1 := ⟨co_X4_isPriceSeenBelow, im_X4_isPriceSeenBelow, se_X4_isPriceSeenBelow, ini_X4, by decide, by decide, by decide +kernel⟩
theorem ca_X4_greatestPrice : zCal yX4_greatestPrice cX4_greatestPrice 3 (some .int) 0 := ⟨co_X4_greatestPrice, im_X4_greatestPrice, se_X4_greatestPrice, ini_X4, by decide, by decide, by decide +kernel⟩
theorem ca_X4_sumWithout : zCal yX4_sumWithout cX4_sumWithout 5 (some .int) 1 := ⟨co_X4_sumWithout, im_X4_sumWithout, se_X4_sumWithout, ini_X4, by decide, by decide, by decide +kernel⟩
theorem ca_X4_postersUnseen : zCal yX4_postersUnseen cX4_postersUnseen 3 (some .int) 0 := ⟨co_X4_postersUnseen, im_X4_postersUnseen, se_X4_postersUnseen, ini_X4, by decide, by decide, by decide +kernel⟩
theorem ca_X4_postersAllClear : zCal yX4_postersAllClear cX4_postersAllClear 3 (some .int) 0 := ⟨co_X4_postersAllClear, im_X4_postersAllClear, se_X4_postersAllClear, ini_X4, by decide, by decide, by decide +kernel⟩
theorem ca_X5_sunOf : zCal yX5_sunOf cX5_sunOf 2 (some .int) 1 := ⟨co_X5_sunOf, im_X5_sunOf, se_X5_sunOf, ini_X5, by decide, by decide, by decide +kernel⟩
theorem ca_X5_ifPassed : zCal yX5_ifPassed cX5_ifPassed 4 (some .int) 2 := ⟨co_X5_ifPassed, im_X5_ifPassed, se_X5_ifPassed, ini_X5, by decide, by decide, by decide +kernel⟩
theorem ca_X4_pricesUnlike : zCal yX4_pricesUnlike cX4_pricesUnlike 4 (some .int) 1 := ⟨co_X4_pricesUnlike, im_X4_pricesUnlike, se_X4_pricesUnlike, ini_X4, by decide, by decide, by decide +kernel⟩
theorem ca_X5_willShow : zCal yX5_willShow cX5_willShow 5 (some .int) 3 := ⟨co_X5_willShow, im_X5_willShow, se_X5_willShow, ini_X5, by decide, by decide, by decide +kernel⟩
theorem ca_X5_nextChange : zCal yX5_nextChange cX5_nextChange 3 (some .int) 0 := ⟨co_X5_nextChange, im_X5_nextChange, se_X5_nextChange, ini_X5, by decide, by decide, by decide +kernel⟩
theorem ca_X4_daysToOtherPrice : zCal yX4_daysToOtherPrice cX4_daysToOtherPrice 5 (some .int) 1 := ⟨co_X4_daysToOtherPrice, im_X4_daysToOtherPrice, se_X4_daysToOtherPrice, ini_X4, by decide, by decide, by decide +kernel⟩
theorem ca_X5_comesToLight : zCal yX5_comesToLight cX5_comesToLight 4 (some .int) 1 := ⟨co_X5_comesToLight, im_X5_comesToLight, se_X5_comesToLight, ini_X5, by decide, by decide, by decide +kernel⟩
theorem ca_X4_daysToSee : zCal yX4_daysToSee cX4_daysToSee 5 (some .int) 2 := ⟨co_X4_daysToSee, im_X4_daysToSee, se_X4_daysToSee, ini_X4, by decide, by decide, by decide +kernel⟩
theorem ca_X5_bestTorn : zCal yX5_bestTorn cX5_bestTorn 6 (some .int) 1 := ⟨co_X5_bestTorn, im_X5_bestTorn, se_X5_bestTorn, ini_X5, by decide, by decide, by decide +kernel⟩
theorem ca_X5_put : zCal yX5_put cX5_put 4 (some .int) 1 := ⟨co_X5_put, im_X5_put, se_X5_put, ini_X5, by decide, by decide, by decide +kernel⟩
theorem ca_X2_signsIn : zCas yX2_signsIn cX2_signsIn 6 (some .int) 1 := ⟨co_X2_signsIn, st_X2_signsIn, ini_X2, by decide, by decide, by decide +kernel⟩
theorem ca_X2_append : zCal yX2_append cX2_append 7 none 2 := ⟨co_X2_append, im_X2_append, se_X2_append, ini_X2, by decide, by decide, by decide +kernel⟩
theorem ca_X5_wipe : zCal yX5_wipe cX5_wipe 2 (some .int) 0 := ⟨co_X5_wipe, im_X5_wipe, se_X5_wipe, ini_X5, by decide, by decide, by decide +kernel⟩
theorem ca_X5_fault : zCal yX5_fault cX5_fault 1 (some .int) 0 := ⟨co_X5_fault, im_X5_fault, se_X5_fault, ini_X5, by decide, by decide, by decide +kernel⟩
theorem ca_X5_undo : zCal yX5_undo cX5_undo 1 (some .int) 0 := ⟨co_X5_undo, im_X5_undo, se_X5_undo, ini_X5, by decide, by decide, by decide +kernel⟩
theorem ca_X1_takeBack : zCal yX1_takeBack cX1_takeBack 2 none 1 := ⟨co_X1_takeBack, im_X1_takeBack, se_X1_takeBack, ini_X1, by decide, by decide, by decide +kernel⟩
theorem ca_X5_save : zCal yX5_save cX5_save 2 (some .int) 1 := ⟨co_X5_save, im_X5_save, se_X5_save, ini_X5, by decide, by decide, by decide +kernel⟩
theorem ca_X5_restore : zCal yX5_restore cX5_restore 2 (some .int) 1 := ⟨co_X5_restore, im_X5_restore, se_X5_restore, ini_X5, by decide, by decide, by decide +kernel⟩
theorem ca_X6_init : zCai yX6_init cX6_init 2 0 := ⟨co_X6_init, im_X6_init, ini_X6, rfl, by decide, by decide, by decide +kernel⟩
theorem ca_X6_paste : zCal yX6_paste cX6_paste 11 (some .int) 6 := ⟨co_X6_paste, im_X6_paste, se_X6_paste, ini_X6, by decide, by decide, by decide +kernel⟩
theorem ca_X6_isCell : zCas yX6_isCell cX6_isCell 2 (some .boolean) 2 := ⟨co_X6_isCell, st_X6_isCell, ini_X6, by decide, by decide, by decide +kernel⟩
theorem ca_X6_in : zCas yX6_in cX6_in 3 (some .boolean) 3 := ⟨co_X6_in, st_X6_in, ini_X6, by decide, by decide, by decide +kernel⟩
theorem ca_X6_records : zCal yX6_records cX6_records 2 none 0 := ⟨co_X6_records, im_X6_records, se_X6_records, ini_X6, by decide, by decide, by decide +kernel⟩
theorem ca_X6_lies : zCal yX6_lies cX6_lies 5 (some .boolean) 2 := ⟨co_X6_lies, im_X6_lies, se_X6_lies, ini_X6, by decide, by decide, by decide +kernel⟩
theorem ca_X6_of : zCal yX6_of cX6_of 3 (some .int) 2 := ⟨co_X6_of, im_X6_of, se_X6_of, ini_X6, by decide, by decide, by decide +kernel⟩
theorem ca_X6_lays : zCal yX6_lays cX6_lays 4 none 3 := ⟨co_X6_lays, im_X6_lays, se_X6_lays, ini_X6, by decide, by decide, by decide +kernel⟩
theorem ca_X6_tear : zCal yX6_tear cX6_tear 3 (some .int) 1 := ⟨co_X6_tear, im_X6_tear, se_X6_tear, ini_X6, by decide, by decide, by decide +kernel⟩
theorem ca_X6_isPoster : zCal yX6_isPoster cX6_isPoster 2 (some .boolean) 1 := ⟨co_X6_isPoster, im_X6_isPoster, se_X6_isPoster, ini_X6, by decide, by decide, by decide +kernel⟩
theorem ca_X6_overCells : zCal yX6_overCells cX6_overCells 6 (some .int) 2 := ⟨co_X6_overCells, im_X6_overCells, se_X6_overCells, ini_X6, by decide, by decide, by decide +kernel⟩
theorem ca_X6_seenAt : zCal yX6_seenAt cX6_seenAt 4 (some .int) 2 := ⟨co_X6_seenAt, im_X6_seenAt, se_X6_seenAt, ini_X6, by decide, by decide, by decide +kernel⟩
theorem ca_X6_has : zCal yX6_has cX6_has 3 (some .int) 2 := ⟨co_X6_has, im_X6_has, se_X6_has, ini_X6, by decide, by decide, by decide +kernel⟩
theorem ca_X6_drops : zCal yX6_drops cX6_drops 3 none 1 := ⟨co_X6_drops, im_X6_drops, se_X6_drops, ini_X6, by decide, by decide, by decide +kernel⟩
theorem ca_X6_coat : zCal yX6_coat cX6_coat 6 (some .int) 2 := ⟨co_X6_coat, im_X6_coat, se_X6_coat, ini_X6, by decide, by decide, by decide +kernel⟩
theorem ca_X6_scrape : zCal yX6_scrape cX6_scrape 9 (some .int) 3 := ⟨co_X6_scrape, im_X6_scrape, se_X6_scrape, ini_X6, by decide, by decide, by decide +kernel⟩
theorem ca_X6_loses : zCal yX6_loses cX6_loses 5 (some .boolean) 3 := ⟨co_X6_loses, im_X6_loses, se_X6_loses, ini_X6, by decide, by decide, by decide +kernel⟩
theorem ca_X6_sun : zCal yX6_sun cX6_sun 4 (some .int) 2 := ⟨co_X6_sun, im_X6_sun, se_X6_sun, ini_X6, by decide, by decide, by decide +kernel⟩
theorem ca_X6_buy : zCal yX6_buy cX6_buy 6 (some .int) 3 := ⟨co_X6_buy, im_X6_buy, se_X6_buy, ini_X6, by decide, by decide, by decide +kernel⟩
theorem ca_X6_priceAt : zCal yX6_priceAt cX6_priceAt 3 (some .int) 1 := ⟨co_X6_priceAt, im_X6_priceAt, se_X6_priceAt, ini_X6, by decide, by decide, by decide +kernel⟩
theorem ca_X6_pays : zCal yX6_pays cX6_pays 5 (some .boolean) 2 := ⟨co_X6_pays, im_X6_pays, se_X6_pays, ini_X6, by decide, by decide, by decide +kernel⟩
theorem ca_X6_adds : zCal yX6_adds cX6_adds 4 none 3 := ⟨co_X6_adds, im_X6_adds, se_X6_adds, ini_X6, by decide, by decide, by decide +kernel⟩
theorem ca_X6_buyAll : zCal yX6_buyAll cX6_buyAll 3 (some .int) 0 := ⟨co_X6_buyAll, im_X6_buyAll, se_X6_buyAll, ini_X6, by decide, by decide, by decide +kernel⟩
theorem ca_X6_reads : zCal yX6_reads cX6_reads 1 (some .int) 0 := ⟨co_X6_reads, im_X6_reads, se_X6_reads, ini_X6, by decide, by decide, by decide +kernel⟩
theorem ca_X6_readsBuyer : zCal yX6_readsBuyer cX6_readsBuyer 5 none 0 := ⟨co_X6_readsBuyer, im_X6_readsBuyer, se_X6_readsBuyer, ini_X6, by decide, by decide, by decide +kernel⟩
theorem ca_X6_digit : zCal yX6_digit cX6_digit 3 (some .int) 1 := ⟨co_X6_digit, im_X6_digit, se_X6_digit, ini_X6, by decide, by decide, by decide +kernel⟩
theorem ca_X6_sign : zCal yX6_sign cX6_sign 1 (some .int) 0 := ⟨co_X6_sign, im_X6_sign, se_X6_sign, ini_X6, by decide, by decide, by decide +kernel⟩
theorem ca_X6_wants : zCal yX6_wants cX6_wants 2 none 1 := ⟨co_X6_wants, im_X6_wants, se_X6_wants, ini_X6, by decide, by decide, by decide +kernel⟩
theorem ca_X6_pass : zCal yX6_pass cX6_pass 2 (some .int) 1 := ⟨co_X6_pass, im_X6_pass, se_X6_pass, ini_X6, by decide, by decide, by decide +kernel⟩
theorem ca_X6_days : zCal yX6_days cX6_days 4 (some .int) 1 := ⟨co_X6_days, im_X6_days, se_X6_days, ini_X6, by decide, by decide, by decide +kernel⟩
theorem ca_X6_day : zCal yX6_day cX6_day 3 (some .int) 0 := ⟨co_X6_day, im_X6_day, se_X6_day, ini_X6, by decide, by decide, by decide +kernel⟩
theorem ca_X6_cell : zCal yX6_cell cX6_cell 6 (some .int) 3 := ⟨co_X6_cell, im_X6_cell, se_X6_cell, ini_X6, by decide, by decide, by decide +kernel⟩
theorem ca_X6_lyingAt : zCal yX6_lyingAt cX6_lyingAt 5 (some .int) 2 := ⟨co_X6_lyingAt, im_X6_lyingAt, se_X6_lyingAt, ini_X6, by decide, by decide, by decide +kernel⟩
theorem ca_X6_poster : zCal yX6_poster cX6_poster 3 (some .int) 2 := ⟨co_X6_poster, im_X6_poster, se_X6_poster, ini_X6, by decide, by decide, by decide +kernel⟩
theorem ca_X6_varnish : zCal yX6_varnish cX6_varnish 4 (some .int) 3 := ⟨co_X6_varnish, im_X6_varnish, se_X6_varnish, ini_X6, by decide, by decide, by decide +kernel⟩
theorem ca_X6_count : zCal yX6_count cX6_count 2 (some .int) 1 := ⟨co_X6_count, im_X6_count, se_X6_count, ini_X6, by decide, by decide, by decide +kernel⟩
theorem ca_X6_overWall : zCal yX6_overWall cX6_overWall 7 (some .int) 1 := ⟨co_X6_overWall, im_X6_overWall, se_X6_overWall, ini_X6, by decide, by decide, by decide +kernel⟩
theorem ca_X6_laysShown : zCal yX6_laysShown cX6_laysShown 2 none 0 := ⟨co_X6_laysShown, im_X6_laysShown, se_X6_laysShown, ini_X6, by decide, by decide, by decide +kernel⟩
theorem ca_X6_sumBut : zCal yX6_sumBut cX6_sumBut 5 (some .int) 1 := ⟨co_X6_sumBut, im_X6_sumBut, se_X6_sumBut, ini_X6, by decide, by decide, by decide +kernel⟩
theorem ca_X6_overPosters : zCal yX6_overPosters cX6_overPosters 4 (some .int) 1 := ⟨co_X6_overPosters, im_X6_overPosters, se_X6_overPosters, ini_X6, by decide, by decide, by decide +kernel⟩
theorem ca_X6_sunOf : zCal yX6_sunOf cX6_sunOf 2 (some .int) 1 := ⟨co_X6_sunOf, im_X6_sunOf, se_X6_sunOf, ini_X6, by decide, by decide, by decide +kernel⟩
theorem ca_X6_ifPassed : zCal yX6_ifPassed cX6_ifPassed 5 (some .int) 2 := ⟨co_X6_ifPassed, im_X6_ifPassed, se_X6_ifPassed, ini_X6, by decide, by decide, by decide +kernel⟩
theorem ca_X6_putAside : zCal yX6_putAside cX6_putAside 2 none 0 := ⟨co_X6_putAside, im_X6_putAside, se_X6_putAside, ini_X6, by decide, by decide, by decide +kernel⟩
theorem ca_X6_others : zCal yX6_others cX6_others 3 (some .int) 0 := ⟨co_X6_others, im_X6_others, se_X6_others, ini_X6, by decide, by decide, by decide +kernel⟩
theorem ca_X6_takeBack : zCal yX6_takeBack cX6_takeBack 2 none 0 := ⟨co_X6_takeBack, im_X6_takeBack, se_X6_takeBack, ini_X6, by decide, by decide, by decide +kernel⟩
theorem ca_X6_willShow : zCal yX6_willShow cX6_willShow 5 (some .int) 3 := ⟨co_X6_willShow, im_X6_willShow, se_X6_willShow, ini_X6, by decide, by decide, by decide +kernel⟩
theorem ca_X6_nextChange : zCal yX6_nextChange cX6_nextChange 3 (some .int) 0 := ⟨co_X6_nextChange, im_X6_nextChange, se_X6_nextChange, ini_X6, by decide, by decide, by decide +kernel⟩
theorem ca_X6_comesToLight : zCal yX6_comesToLight cX6_comesToLight 4 (some .int) 1 := ⟨co_X6_comesToLight, im_X6_comesToLight, se_X6_comesToLight, ini_X6, by decide, by decide, by decide +kernel⟩
theorem ca_X6_bestTorn : zCal yX6_bestTorn cX6_bestTorn 6 (some .int) 1 := ⟨co_X6_bestTorn, im_X6_bestTorn, se_X6_bestTorn, ini_X6, by decide, by decide, by decide +kernel⟩
theorem ca_X6_put : zCal yX6_put cX6_put 8 (some .int) 1 := ⟨co_X6_put, im_X6_put, se_X6_put, ini_X6, by decide, by decide, by decide +kernel⟩
theorem ca_X6_wipe : zCal yX6_wipe cX6_wipe 2 (some .int) 0 := ⟨co_X6_wipe, im_X6_wipe, se_X6_wipe, ini_X6, by decide, by decide, by decide +kernel⟩
theorem ca_X6_fault : zCal yX6_fault cX6_fault 1 (some .int) 0 := ⟨co_X6_fault, im_X6_fault, se_X6_fault, ini_X6, by decide, by decide, by decide +kernel⟩
theorem ca_X6_undo : zCal yX6_undo cX6_undo 2 (some .int) 0 := ⟨co_X6_undo, im_X6_undo, se_X6_undo, ini_X6, by decide, by decide, by decide +kernel⟩
theorem ca_X6_save : zCal yX6_save cX6_save 3 (some .int) 1 := ⟨co_X6_save, im_X6_save, se_X6_save, ini_X6, by decide, by decide, by decide +kernel⟩
theorem ca_X6_restore : zCal yX6_restore cX6_restore 3 (some .int) 1 := ⟨co_X6_restore, im_X6_restore, se_X6_restore, ini_X6, by decide, by decide, by decide +kernel⟩
