/-- the check's fields that are numbers: what was thrown, undos, the pad's length, the reader's place, whether it is well, buyers -/
def sg (t un ln at' w bm : Int32) : Nat → Int32 := fun j => match j with
  | 0 => t
  | 4 => un
  | 8 => ln
  | 11 => at'
  | 12 => w
  | 14 => bm
  | _ => 0
theorem keepH_top {hist : Nat → Wv} {n : Nat} {v : Wv} (hn : n ≤ 6) {u : Nat} (hu : keepN n = u + 1) : keepH hist n v u = v := by
  unfold keepN at hu
  unfold keepH
  by_cases h : n = 6
  · rw [if_pos h] at hu ⊢; rw [if_neg (by omega)]
  · rw [if_neg h] at hu ⊢; rw [if_pos (by omega)]
theorem rec6 {hist : Nat → Wv} {n : Nat} {v : Wv} {f U : Nat → Int32} (hn : n = 6) (hU : ∀ k, k < n → ∀ i, i < 818 → U (818 * k + i) = nI (hist k i)) (hf : ∀ i, i < 4090 → f i = U (i + 818)) : ∀ j, j < n - 1 → ∀ i, i < 818 → f (818 * j + i) = nI (keepH hist n v j i) := by
  intro j hj i hi
  rw [hf _ (by omega), show 818 * j + i + 818 = 818 * (j + 1) + i by omega, hU _ (by omega) _ hi]
  unfold keepH
  rw [if_pos hn, if_pos (by omega)]
theorem rec5 {hist : Nat → Wv} {n : Nat} {v : Wv} {U : Nat → Int32} (hn : n ≠ 6) (hU : ∀ k, k < n → ∀ i, i < 818 → U (818 * k + i) = nI (hist k i)) : ∀ j, j < n → ∀ i, i < 818 → U (818 * j + i) = nI (keepH hist n v j i) := by
  intro j hj i hi
  rw [hU _ hj _ hi]
  unfold keepH
  rw [if_neg hn, if_neg (by omega)]
theorem recE {hist : Nat → Wv} {n u : Nat} {v : Wv} {f : Nat → Int32} (hn : n ≤ 6) (hu : keepN n = u + 1) (hf : ∀ j, j < u → ∀ i, i < 818 → f (818 * j + i) = nI (keepH hist n v j i)) (hg : ∀ i, i < 818 → f (818 * u + i) = nI (v i)) : ∀ j, j < keepN n → ∀ i, i < 818 → f (818 * j + i) = nI (keepH hist n v j i) := by
  intro j hj i hi
  by_cases h : j = u
  · subst h; rw [hg i hi, keepH_top hn hu]
  · exact hf j (by omega) i hi
theorem recS {hist : Nat → Wv} {n u k : Nat} {v : Wv} {f : Nat → Int32} {x : Int32} (hf : ∀ j, j < u → ∀ i, i < 818 → f (818 * j + i) = nI (keepH hist n v j i)) : ∀ j, j < u → ∀ i, i < 818 → (fun q => if q = 818 * u + k then x else f q) (818 * j + i) = nI (keepH hist n v j i) := by
  intro j hj i hi
  show (if 818 * j + i = 818 * u + k then _ else _) = _
  rw [if_neg (by omega)]
  exact hf j hj i hi
theorem recG {u k : Nat} {v : Wv} {f : Nat → Int32} (hg : ∀ i, i < k → f (818 * u + i) = nI (v i)) : ∀ i, i < k + 1 → (fun q => if q = 818 * u + k then nI (v k) else f q) (818 * u + i) = nI (v i) := by
  intro i hi
  show (if 818 * u + i = 818 * u + k then _ else _) = _
  by_cases h : i = k
  · subst h; rw [if_pos rfl]
  · rw [if_neg (by omega)]; exact hg i (by omega)
/-- a poster is taken down, in four strokes -/
def trA (v : Wv) (p k : Nat) : Wv := fun i => if i = 0 then v 0 - 1 else if 14 + 7 * p ≤ i ∧ i < 14 + k then v (i + 7) else v i
def trB (v : Wv) (p k : Nat) : Wv := fun i => if 98 + 60 * p ≤ i ∧ i < 98 + k then v (i + 60) else trA v p (7 * (v 0 - 1)) i
def trC (v : Wv) (p k : Nat) : Wv := fun i => if 14 + 7 * (v 0 - 1) ≤ i ∧ i < 14 + 7 * (v 0 - 1) + k then 0 else trB v p (60 * (v 0 - 1)) i
def trD (v : Wv) (p k : Nat) : Wv := fun i => if 98 + 60 * (v 0 - 1) ≤ i ∧ i < 98 + 60 * (v 0 - 1) + k then 0 else trC v p 7 i
theorem trA_0 {v : Wv} {p : Nat} : ∀ i, vset v 0 (v 0 - 1) i = trA v p (7 * p) i := fun i => by
  unfold trA
  show fset _ _ _ _ = _
  unfold fset
  split
  · rfl
  · rw [if_neg (by omega)]
theorem trA_s {u v : Wv} {p k : Nat} (hn : v 0 ≤ 12) (hp : p < v 0) (hk : k < 7 * (v 0 - 1)) (hpk : 7 * p ≤ k) (hu : ∀ i, u i = trA v p k i) : ∀ i, vset u (14 + k) (u (14 + k + 7)) i = trA v p (k + 1) i := fun i => by
  show fset _ _ _ _ = _
  unfold fset
  by_cases h : i = 14 + k
  · subst h; rw [if_pos rfl, hu]; unfold trA; rw [if_neg (by omega), if_neg (by omega), if_neg (by omega), if_pos (by omega)]
  · rw [if_neg h, hu]; unfold trA
    by_cases h0 : i = 0
    · rw [if_pos h0, if_pos h0]
    · rw [if_neg h0, if_neg h0]
      by_cases h1 : 14 + 7 * p ≤ i ∧ i < 14 + k
      · rw [if_pos h1, if_pos (by omega)]
      · rw [if_neg h1, if_neg (by omega)]
theorem trB_0 {u v : Wv} {p k : Nat} (hn : v 0 ≤ 12) (hp : p < v 0) (hk : k ≤ 7 * (v 0 - 1)) (hk2 : 7 * (v 0 - 1) ≤ k) (hu : ∀ i, u i = trA v p k i) : ∀ i, u i = trB v p (60 * p) i := fun i => by
  rw [hu, show k = 7 * (v 0 - 1) by omega]; unfold trB; rw [if_neg (by omega)]
theorem trB_s {u v : Wv} {p k : Nat} (hn : v 0 ≤ 12) (hp : p < v 0) (hk : k < 60 * (v 0 - 1)) (hpk : 60 * p ≤ k) (hu : ∀ i, u i = trB v p k i) : ∀ i, vset u (98 + k) (u (98 + k + 60)) i = trB v p (k + 1) i := fun i => by
  show fset _ _ _ _ = _
  unfold fset
  by_cases h : i = 98 + k
  · subst h; rw [if_pos rfl, hu]; unfold trB; rw [if_neg (by omega), if_pos (by omega)]; unfold trA; rw [if_neg (by omega), if_neg (by omega)]
  · rw [if_neg h, hu]; unfold trB
    by_cases h1 : 98 + 60 * p ≤ i ∧ i < 98 + k
    · rw [if_pos h1, if_pos (by omega)]
    · rw [if_neg h1, if_neg (by omega)]
theorem trC_0 {u v : Wv} {p k : Nat} (hn : v 0 ≤ 12) (hp : p < v 0) (hk : k ≤ 60 * (v 0 - 1)) (hk2 : 60 * (v 0 - 1) ≤ k) (hu : ∀ i, u i = trB v p k i) : ∀ i, u i = trC v p 0 i := fun i => by
  rw [hu, show k = 60 * (v 0 - 1) by omega]; unfold trC; rw [if_neg (by omega)]
theorem trC_s {u v : Wv} {p k : Nat} (hn : v 0 ≤ 12) (hp : p < v 0) (hk : k < 7) (hu0 : u 0 = v 0 - 1) (hu : ∀ i, u i = trC v p k i) : ∀ i, vset u (14 + 7 * u 0 + k) 0 i = trC v p (k + 1) i := fun i => by
  show fset _ _ _ _ = _
  rw [hu0]
  unfold fset
  by_cases h : i = 14 + 7 * (v 0 - 1) + k
  · subst h; rw [if_pos rfl]; unfold trC; rw [if_pos (by omega)]
  · rw [if_neg h, hu]; unfold trC
    by_cases h1 : 14 + 7 * (v 0 - 1) ≤ i ∧ i < 14 + 7 * (v 0 - 1) + k
    · rw [if_pos h1, if_pos (by omega)]
    · rw [if_neg h1, if_neg (by omega)]
theorem trD_0 {u v : Wv} {p k : Nat} (hn : v 0 ≤ 12) (hp : p < v 0) (hk : k ≤ 7) (hk2 : 7 ≤ k) (hu : ∀ i, u i = trC v p k i) : ∀ i, u i = trD v p 0 i := fun i => by
  rw [hu, show k = 7 by omega]; unfold trD; rw [if_neg (by omega)]
theorem trD_s {u v : Wv} {p k : Nat} (hn : v 0 ≤ 12) (hp : p < v 0) (hk : k < 60) (hu0 : u 0 = v 0 - 1) (hu : ∀ i, u i = trD v p k i) : ∀ i, vset u (98 + 60 * u 0 + k) 0 i = trD v p (k + 1) i := fun i => by
  show fset _ _ _ _ = _
  rw [hu0]
  unfold fset
  by_cases h : i = 98 + 60 * (v 0 - 1) + k
  · subst h; rw [if_pos rfl]; unfold trD; rw [if_pos (by omega)]
  · rw [if_neg h, hu]; unfold trD
    by_cases h1 : 98 + 60 * (v 0 - 1) ≤ i ∧ i < 98 + 60 * (v 0 - 1) + k
    · rw [if_pos h1, if_pos (by omega)]
    · rw [if_neg h1, if_neg (by omega)]
theorem trD_e {u v : Wv} {p k : Nat} (hn : v 0 ≤ 12) (hp : p < v 0) (hk : k ≤ 60) (hk2 : 60 ≤ k) (hu : ∀ i, u i = trD v p k i) : ∀ i, u i = tearV v p i := fun i => by
  rw [hu, show k = 60 by omega]
  unfold trD trC trB trA tearV
  repeat' split
  all_goals first | rfl | (exfalso; omega)
theorem trC_v0 {v : Wv} {p k : Nat} (hn : v 0 ≤ 12) (hp : p < v 0) : trC v p k 0 = v 0 - 1 := by
  unfold trC trB trA
  rw [if_neg (by omega), if_neg (by omega), if_pos rfl]
theorem trD_v0 {v : Wv} {p k : Nat} (hn : v 0 ≤ 12) (hp : p < v 0) : trD v p k 0 = v 0 - 1 := by
  unfold trD
  rw [if_neg (by omega)]; exact trC_v0 hn hp
theorem trB_v0 {v : Wv} {p k : Nat} (hn : v 0 ≤ 12) (hp : p < v 0) : trB v p k 0 = v 0 - 1 := by
  unfold trB trA
  rw [if_neg (by omega), if_pos rfl]
/-- whether no cell before k shows the price of c -/
def nwB (v : Wv) (c : Nat) : Nat → Bool
  | 0 => true
  | k + 1 => nwB v c k && decide (prc v (-6) k ≠ prc v (-6) c)
def fstCnt (v : Wv) : Nat := zcnt (fun c => (prc v (-6) c).isSome && nwB v c c) 60
theorem prc_isSome (v : Wv) (b : Int32) (c : Nat) : (prc v b c).isSome = (seen v b c).isSome := by
  unfold prc
  cases seen v b c <;> rfl
theorem grt_none {v : Wv} {c : Nat} {mo : Option Nat} (h : prc v (-6) c = none) (ho : mo = grtTo v c) : mo = grtTo v (c + 1) := by
  rw [ho]
  show _ = omax _ _
  rw [h]
  cases grtTo v c <;> rfl
theorem grt_le {v : Wv} {c x j : Nat} {mo : Option Nat} (h : prc v (-6) c = some x) (ho : mo = grtTo v c) (he : mo = some j) (hle : x ≤ j) : mo = grtTo v (c + 1) := by
  rw [he] at ho ⊢
  show _ = omax _ _
  rw [h, ← ho]
  show _ = some (max j x)
  rw [Nat.max_eq_left hle]
theorem grt_gt {v : Wv} {c x : Nat} {mo : Option Nat} (h : prc v (-6) c = some x) (ho : mo = grtTo v c) (hg : ∀ g, mo = some g → g < x) : some x = grtTo v (c + 1) := by
  show _ = omax _ _
  rw [h, ← ho]
  cases mo with
  | none => rfl
  | some j =>
    have := hg j rfl
    show _ = some (max j x)
    rw [Nat.max_eq_right (by omega)]
section ZW
variable {p : Program} {l : Launch} {e : Env} {R : Room} {s : State} {m : MethodId} {args : Array Value} {below : List Frame} {meth : Method} {c : Code} {H : Heap} {locs : List Loc} {cells slots : Nat} {Q : State → Prop}
variable {cc : ByteArray} {pc tgt : Nat} {off : Int} {ls : Array Slot} {rest : List Value} {o : Option Nat}
theorem mo_cmp_le (hx : p.tables.exec = Jvm.exec) (hb : c.code = cc) (ho : ∀ j, o = some j → j < 2 ^ 31) (hdg : decode cc pc = .ok (.if_icmp .le off, 3)) (ht : (pc : Int) + off = (tgt : Int)) (kt : W p l e R s m args below meth c H locs cells slots Q (F0 m tgt ls rest)) : W p l e R s m args below meth c H locs cells slots Q (F0 m pc ls (.int (oI o) :: .int (-6) :: rest)) :=
  lv_icmp_le hx hb hdg ht (fun _ => kt) (fun h => absurd (show (-6 : Int32) ≤ oI o by
    rw [Int32.le_iff_toInt_le, show (-6 : Int32).toInt = -6 by decide]
    cases o with
    | none => decide
    | some j => show _ ≤ (nI j).toInt; rw [nI_toInt (ho j rfl)]; omega) (by first | exact h | exact Int32.not_le.mpr h))
end ZW

set_option maxHeartbeats 4000000 in
set_option maxRecDepth 100000 in
theorem c_X6_records (l : Launch) (G : zG) (B0 : Nat) (M : Mm) (d : Nat) (t ln at' w bm : Int32) (n : Nat) (hist : Nat → Wv) (v : Wv) (A U L K PD SE SH BU : Nat → Int32) (hM : Md G d (sg t (nI n) ln at' w bm) (xs v A U L K PD SE SH BU) M) (hv : wOk v) (hBd : B0 ≤ d) (hn6 : n ≤ 6) (hU : ∀ k, k < n → ∀ i, i < 818 → U (818 * k + i) = nI (hist k i)) : zMet l yX6_records cX6_records 2 none 0 0 0 G B0 M [.ref d] none (fun M1 => ∃ U1, Md G d (sg t (nI (keepN n)) ln at' w bm) (xs v A U1 L K PD SE SH BU) M1 ∧ (∀ k, k < keepN n → ∀ i, i < 818 → U1 (818 * k + i) = nI (keepH hist n v k i)) ∧ ∀ q, (q < d ∨ d + 10 ≤ q) → M1 q = M q) := by
  refine z_met RX6 [(0, .ref d)] (by decide) rfl (Nat.le_of_ble_eq_true rfl) rfl ?_
  intro pg ev s m below meth cd ls hE hin hB0 hH hl
  have hx := hE.1
  have hb := hE.2.1
  have hn : v 0 ≤ 12 := hv.1
  have hA : zArr G 0 M (d + 1) 818 (fun i => nI (v i)) := hM.s (fun _ _ => rfl)
  have hF : ∀ q, (q < d ∨ d + 10 ≤ q) → M q = M q := fun _ _ => rfl
  refine z_gen B0 (fun H locs hH hS => ?_) hH
  refine lv_aload_n hx hb dX6_records_0 rfl (lv_at hl 0 rfl) ?_
  refine z_get (T := TX6) (v := .int (nI n)) hE hH hM.1 rfl uw_X6 4 (by decide) fkX6_50 rfl dX6_records_1 ?_
  refine n_bipush hx hb 6 dX6_records_4 (by decide) ?_
  refine n_cmp_ne (tgt := 50) hx hb (by omega) (by decide) dX6_records_6 (by decide) (fun h1 => ?_) (fun h1 => ?_)
  · refine n_iconst hx hb 0 dX6_records_50 (by decide) ?_
    refine lv_istore_n (lv' := [(1, .int (nI 0)), (0, .ref d)]) hx hb dX6_records_51 rfl hl (by decide) rfl (fun ls hl => ?_)
    have L52 : ∀ (dd : Nat) (k : Nat) (u : Nat) (f : Nat → Int32) (M1 : Mm), 818 < k + dd → (k ≤ 818) → (Md G d (sg t (nI u) ln at' w bm) (xs v A f L K PD SE SH BU) M1) → (∀ q, (q < d ∨ d + 10 ≤ q) → M1 q = M q) → (keepN n = u + 1) → (∀ j, j < u → ∀ i, i < 818 → f (818 * j + i) = nI (keepH hist n v j i)) → (∀ i, i < k → f (818 * u + i) = nI (v i)) → ∀ (H : Heap) (locs : List Loc), zH G M1 H → zS 0 B0 s.heap H locs → ∀ (ls : Array Slot), lv_has ls 2 [(0, .ref d), (1, .int (nI k))] → zW pg l ev 0 0 0 s m [.ref d] below meth cd H locs 0 0 G B0 none (fun M1 => ∃ U1, Md G d (sg t (nI (keepN n)) ln at' w bm) (xs v A U1 L K PD SE SH BU) M1 ∧ (∀ k, k < keepN n → ∀ i, i < 818 → U1 (818 * k + i) = nI (keepH hist n v k i)) ∧ ∀ q, (q < d ∨ d + 10 ≤ q) → M1 q = M q) (F0 m 52 ls []) := by
      intro dd
      induction dd with
      | zero =>
        intro k u f M1 hdd hk hM1 hF1 hu hf hg
        exact absurd hdd (by omega)
      | succ dd ih =>
        intro k u f M1 hdd hk hM1 hF1 hu hf hg H locs hH hS ls hl
        have hA1 : zArr G 0 M1 (d + 1) 818 (fun i => nI (v i)) := hM1.s (fun _ _ => rfl)
        have hu6 := keepN_le hn6
        refine lv_iload_n hx hb dX6_records_52 rfl (lv_at hl 1 rfl) ?_
        refine n_sipush hx hb 818 dX6_records_53 (by decide) ?_
        refine n_cmp_ge (tgt := 86) hx hb (by omega) (by decide) dX6_records_56 (by decide) (fun h2 => ?_) (fun h2 => ?_)
        · refine lv_aload_n hx hb dX6_records_86 rfl (lv_at hl 0 rfl) ?_
          refine lv_dup hx hb dX6_records_87 rfl ?_
          refine z_get (T := TX6) (v := .int (nI u)) hE hH hM1.1 rfl uw_X6 4 (by decide) fkX6_50 rfl dX6_records_88 ?_
          refine n_iconst hx hb 1 dX6_records_91 (by decide) ?_
          refine n_iadd hx hb dX6_records_92 ?_
          refine z_put (T := TX6) hE hH hS hM1.1 rfl uw_X6 tyX6 tyX6_ok nmX6 4 (by decide) fkX6_50 rfl rfl rfl (Nat.le_of_ble_eq_true rfl) (by omega) dX6_records_93 (fun H locs M5 hH hS e3 o4 => ?_)
          have hM6 : Md G d (sg t (nI (u + 1)) ln at' w bm) (xs v A f L K PD SE SH BU) M5 := Md.setC hM1 e3 o4
          have hA7 := hM6.s (fun _ _ => rfl)
          have hF8 := fun q hq => (o4 q (by omega)).trans (hF1 q hq)
          have hMz : Md G d (sg t (nI (keepN n)) ln at' w bm) (xs v A f L K PD SE SH BU) M5 := by rw [hu]; exact hM6
          exact z_vret hE hH hS ⟨f, hMz, recE hn6 hu hf (fun i hi => hg i (by omega)), hF8⟩ dX6_records_96
        · refine lv_aload_n hx hb dX6_records_59 rfl (lv_at hl 0 rfl) ?_
          refine z_get (T := TX6) (v := .ref (d + 3)) hE hH hM1.1 rfl uw_X6 3 (by decide) fkX6_16 rfl dX6_records_60 ?_
          refine n_sipush hx hb 818 dX6_records_63 (by decide) ?_
          refine lv_aload_n hx hb dX6_records_66 rfl (lv_at hl 0 rfl) ?_
          refine z_get (T := TX6) (v := .int (nI u)) hE hH hM1.1 rfl uw_X6 4 (by decide) fkX6_50 rfl dX6_records_67 ?_
          refine n_imul hx hb dX6_records_70 ?_
          refine lv_iload_n hx hb dX6_records_71 rfl (lv_at hl 1 rfl) ?_
          refine n_iadd hx hb dX6_records_72 ?_
          refine lv_aload_n hx hb dX6_records_73 rfl (lv_at hl 0 rfl) ?_
          refine z_get (T := TX6) (v := .ref (d + 1)) hE hH hM1.1 rfl uw_X6 1 (by decide) fkX6_7 rfl dX6_records_74 ?_
          refine lv_iload_n hx hb dX6_records_77 rfl (lv_at hl 1 rfl) ?_
          refine z_iald hE hH hA1 (k := k) (by omega) (by decide) dX6_records_78 ?_
          refine z_iast hE hH hS (show zArr G 0 M1 (d + 3) 4908 f from hM1.2 3 (by decide) (by decide)) (k := (818 * u) + k) (by omega) (by decide) (by omega) dX6_records_79 (fun H locs M11 hH hS e9 o10 => ?_)
          have hM12 : Md G d (sg t (nI u) ln at' w bm) (xs v A (fun i => if i = ((818 * u) + k) then (nI (v (k))) else f i) L K PD SE SH BU) M11 := Md.setJ (j := 3) hM1 (by decide) e9 (fun i hi => by unfold xs; split <;> first | rfl | exact absurd rfl hi) o10
          have hA13 := hM12.s (fun _ _ => rfl)
          have hF14 := fun q hq => (o10 q (by omega)).trans (hF1 q hq)
          refine lv_iinc (v := (nI (k + 1))) (lv' := [(1, .int (nI (k + 1))), (0, .ref d)]) hx hb dX6_records_80 hl (k := 1) rfl (nI_inc _) (by decide) rfl (fun ls hl => ?_)
          refine lv_goto (tgt := 52) hx hb dX6_records_83 (by decide) ?_
          exact ih  (k + 1) u (fun i => if i = ((818 * u) + k) then (nI (v (k))) else f i) M11 (by omega) (by omega) hM12 hF14 hu (recS hf) (recG hg) _ _ hH hS _ (lv_sub hl [1, 0] rfl)
    exact L52 819 0 n U M (by omega) (by omega) hM hF (by unfold keepN; rw [if_neg (by assumption)]) (rec5 (by assumption) hU) (fun i hi => absurd hi (Nat.not_lt_zero i)) _ _ hH hS _ (lv_sub hl [1, 0] rfl)
  · refine n_iconst hx hb 0 dX6_records_9 (by decide) ?_
    refine lv_istore_n (lv' := [(1, .int (nI 0)), (0, .ref d)]) hx hb dX6_records_10 rfl hl (by decide) rfl (fun ls hl => ?_)
    have L11 : ∀ (dd : Nat) (k : Nat) (f : Nat → Int32) (M1 : Mm), 4090 < k + dd → (k ≤ 4090) → (Md G d (sg t (nI n) ln at' w bm) (xs v A f L K PD SE SH BU) M1) → (∀ q, (q < d ∨ d + 10 ≤ q) → M1 q = M q) → (∀ i, i < k → f i = U (i + 818)) → (∀ i, k ≤ i → f i = U i) → ∀ (H : Heap) (locs : List Loc), zH G M1 H → zS 0 B0 s.heap H locs → ∀ (ls : Array Slot), lv_has ls 2 [(0, .ref d), (1, .int (nI k))] → zW pg l ev 0 0 0 s m [.ref d] below meth cd H locs 0 0 G B0 none (fun M1 => ∃ U1, Md G d (sg t (nI (keepN n)) ln at' w bm) (xs v A U1 L K PD SE SH BU) M1 ∧ (∀ k, k < keepN n → ∀ i, i < 818 → U1 (818 * k + i) = nI (keepH hist n v k i)) ∧ ∀ q, (q < d ∨ d + 10 ≤ q) → M1 q = M q) (F0 m 11 ls []) := by
      intro dd
      induction dd with
      | zero =>
        intro k f M1 hdd hk hM1 hF1 hf hg
        exact absurd hdd (by omega)
      | succ dd ih =>
        intro k f M1 hdd hk hM1 hF1 hf hg H locs hH hS ls hl
        have hA1 : zArr G 0 M1 (d + 1) 818 (fun i => nI (v i)) := hM1.s (fun _ _ => rfl)
        refine lv_iload_n hx hb dX6_records_11 rfl (lv_at hl 1 rfl) ?_
        refine n_sipush hx hb 4090 dX6_records_12 (by decide) ?_
        refine n_cmp_ge (tgt := 40) hx hb (by omega) (by decide) dX6_records_15 (by decide) (fun h15 => ?_) (fun h15 => ?_)
        · refine lv_aload_n hx hb dX6_records_40 rfl (lv_at hl 0 rfl) ?_
          refine lv_dup hx hb dX6_records_41 rfl ?_
          refine z_get (T := TX6) (v := .int (nI n)) hE hH hM1.1 rfl uw_X6 4 (by decide) fkX6_50 rfl dX6_records_42 ?_
          refine n_iconst hx hb 1 dX6_records_45 (by decide) ?_
          refine n_isub hx hb (by omega) dX6_records_46 ?_
          refine z_put (T := TX6) hE hH hS hM1.1 rfl uw_X6 tyX6 tyX6_ok nmX6 4 (by decide) fkX6_50 rfl rfl rfl (Nat.le_of_ble_eq_true rfl) (by omega) dX6_records_47 (fun H locs M18 hH hS e16 o17 => ?_)
          have hM19 : Md G d (sg t (nI (n - 1)) ln at' w bm) (xs v A f L K PD SE SH BU) M18 := Md.setC hM1 e16 o17
          have hA20 := hM19.s (fun _ _ => rfl)
          have hF21 := fun q hq => (o17 q (by omega)).trans (hF1 q hq)
          refine n_iconst hx hb 0 dX6_records_50 (by decide) ?_
          refine lv_istore_n (lv' := [(1, .int (nI 0)), (0, .ref d)]) hx hb dX6_records_51 rfl hl (by decide) rfl (fun ls hl => ?_)
          have L52 : ∀ (dd52 : Nat) (k : Nat) (u : Nat) (f : Nat → Int32) (M1 : Mm), 818 < k + dd52 → (k ≤ 818) → (Md G d (sg t (nI u) ln at' w bm) (xs v A f L K PD SE SH BU) M1) → (∀ q, (q < d ∨ d + 10 ≤ q) → M1 q = M q) → (keepN n = u + 1) → (∀ j, j < u → ∀ i, i < 818 → f (818 * j + i) = nI (keepH hist n v j i)) → (∀ i, i < k → f (818 * u + i) = nI (v i)) → ∀ (H : Heap) (locs : List Loc), zH G M1 H → zS 0 B0 s.heap H locs → ∀ (ls : Array Slot), lv_has ls 2 [(0, .ref d), (1, .int (nI k))] → zW pg l ev 0 0 0 s m [.ref d] below meth cd H locs 0 0 G B0 none (fun M1 => ∃ U1, Md G d (sg t (nI (keepN n)) ln at' w bm) (xs v A U1 L K PD SE SH BU) M1 ∧ (∀ k, k < keepN n → ∀ i, i < 818 → U1 (818 * k + i) = nI (keepH hist n v k i)) ∧ ∀ q, (q < d ∨ d + 10 ≤ q) → M1 q = M q) (F0 m 52 ls []) := by
            intro dd52
            induction dd52 with
            | zero =>
              intro k u f M1 hdd52 hk hM1 hF1 hu hf hg
              exact absurd hdd52 (by omega)
            | succ dd52 ih52 =>
              intro k u f M1 hdd52 hk hM1 hF1 hu hf hg H locs hH hS ls hl
              have hA1 : zArr G 0 M1 (d + 1) 818 (fun i => nI (v i)) := hM1.s (fun _ _ => rfl)
              have hu6 := keepN_le hn6
              refine lv_iload_n hx hb dX6_records_52 rfl (lv_at hl 1 rfl) ?_
              refine n_sipush hx hb 818 dX6_records_53 (by decide) ?_
              refine n_cmp_ge (tgt := 86) hx hb (by omega) (by decide) dX6_records_56 (by decide) (fun h22 => ?_) (fun h22 => ?_)
              · refine lv_aload_n hx hb dX6_records_86 rfl (lv_at hl 0 rfl) ?_
                refine lv_dup hx hb dX6_records_87 rfl ?_
                refine z_get (T := TX6) (v := .int (nI u)) hE hH hM1.1 rfl uw_X6 4 (by decide) fkX6_50 rfl dX6_records_88 ?_
                refine n_iconst hx hb 1 dX6_records_91 (by decide) ?_
                refine n_iadd hx hb dX6_records_92 ?_
                refine z_put (T := TX6) hE hH hS hM1.1 rfl uw_X6 tyX6 tyX6_ok nmX6 4 (by decide) fkX6_50 rfl rfl rfl (Nat.le_of_ble_eq_true rfl) (by omega) dX6_records_93 (fun H locs M25 hH hS e23 o24 => ?_)
                have hM26 : Md G d (sg t (nI (u + 1)) ln at' w bm) (xs v A f L K PD SE SH BU) M25 := Md.setC hM1 e23 o24
                have hA27 := hM26.s (fun _ _ => rfl)
                have hF28 := fun q hq => (o24 q (by omega)).trans (hF1 q hq)
                have hMz : Md G d (sg t (nI (keepN n)) ln at' w bm) (xs v A f L K PD SE SH BU) M25 := by rw [hu]; exact hM26
                exact z_vret hE hH hS ⟨f, hMz, recE hn6 hu hf (fun i hi => hg i (by omega)), hF28⟩ dX6_records_96
              · refine lv_aload_n hx hb dX6_records_59 rfl (lv_at hl 0 rfl) ?_
                refine z_get (T := TX6) (v := .ref (d + 3)) hE hH hM1.1 rfl uw_X6 3 (by decide) fkX6_16 rfl dX6_records_60 ?_
                refine n_sipush hx hb 818 dX6_records_63 (by decide) ?_
                refine lv_aload_n hx hb dX6_records_66 rfl (lv_at hl 0 rfl) ?_
                refine z_get (T := TX6) (v := .int (nI u)) hE hH hM1.1 rfl uw_X6 4 (by decide) fkX6_50 rfl dX6_records_67 ?_
                refine n_imul hx hb dX6_records_70 ?_
                refine lv_iload_n hx hb dX6_records_71 rfl (lv_at hl 1 rfl) ?_
                refine n_iadd hx hb dX6_records_72 ?_
                refine lv_aload_n hx hb dX6_records_73 rfl (lv_at hl 0 rfl) ?_
                refine z_get (T := TX6) (v := .ref (d + 1)) hE hH hM1.1 rfl uw_X6 1 (by decide) fkX6_7 rfl dX6_records_74 ?_
                refine lv_iload_n hx hb dX6_records_77 rfl (lv_at hl 1 rfl) ?_
                refine z_iald hE hH hA1 (k := k) (by omega) (by decide) dX6_records_78 ?_
                refine z_iast hE hH hS (show zArr G 0 M1 (d + 3) 4908 f from hM1.2 3 (by decide) (by decide)) (k := (818 * u) + k) (by omega) (by decide) (by omega) dX6_records_79 (fun H locs M31 hH hS e29 o30 => ?_)
                have hM32 : Md G d (sg t (nI u) ln at' w bm) (xs v A (fun i => if i = ((818 * u) + k) then (nI (v (k))) else f i) L K PD SE SH BU) M31 := Md.setJ (j := 3) hM1 (by decide) e29 (fun i hi => by unfold xs; split <;> first | rfl | exact absurd rfl hi) o30
                have hA33 := hM32.s (fun _ _ => rfl)
                have hF34 := fun q hq => (o30 q (by omega)).trans (hF1 q hq)
                refine lv_iinc (v := (nI (k + 1))) (lv' := [(1, .int (nI (k + 1))), (0, .ref d)]) hx hb dX6_records_80 hl (k := 1) rfl (nI_inc _) (by decide) rfl (fun ls hl => ?_)
                refine lv_goto (tgt := 52) hx hb dX6_records_83 (by decide) ?_
                exact ih52  (k + 1) u (fun i => if i = ((818 * u) + k) then (nI (v (k))) else f i) M31 (by omega) (by omega) hM32 hF34 hu (recS hf) (recG hg) _ _ hH hS _ (lv_sub hl [1, 0] rfl)
          exact L52 819 0 (n - 1) f M18 (by omega) (by omega) hM19 hF21 (by unfold keepN; rw [if_pos (by assumption)]; omega) (rec6 (by assumption) hU (fun i hi => hf i (by omega))) (fun i hi => absurd hi (Nat.not_lt_zero i)) _ _ hH hS _ (lv_sub hl [1, 0] rfl)
        · refine lv_aload_n hx hb dX6_records_18 rfl (lv_at hl 0 rfl) ?_
          refine z_get (T := TX6) (v := .ref (d + 3)) hE hH hM1.1 rfl uw_X6 3 (by decide) fkX6_16 rfl dX6_records_19 ?_
          refine lv_iload_n hx hb dX6_records_22 rfl (lv_at hl 1 rfl) ?_
          refine lv_aload_n hx hb dX6_records_23 rfl (lv_at hl 0 rfl) ?_
          refine z_get (T := TX6) (v := .ref (d + 3)) hE hH hM1.1 rfl uw_X6 3 (by decide) fkX6_16 rfl dX6_records_24 ?_
          refine lv_iload_n hx hb dX6_records_27 rfl (lv_at hl 1 rfl) ?_
          refine n_sipush hx hb 818 dX6_records_28 (by decide) ?_
          refine n_iadd hx hb dX6_records_31 ?_
          refine z_iald hE hH (show zArr G 0 M1 (d + 3) 4908 f from hM1.2 3 (by decide) (by decide)) (k := k + 818) (by omega) (by decide) dX6_records_32 ?_
          refine z_iast hE hH hS (show zArr G 0 M1 (d + 3) 4908 f from hM1.2 3 (by decide) (by decide)) (k := k) (by omega) (by decide) (by omega) dX6_records_33 (fun H locs M37 hH hS e35 o36 => ?_)
          have hM38 : Md G d (sg t (nI n) ln at' w bm) (xs v A (fun i => if i = k then (f (k + 818)) else f i) L K PD SE SH BU) M37 := Md.setJ (j := 3) hM1 (by decide) e35 (fun i hi => by unfold xs; split <;> first | rfl | exact absurd rfl hi) o36
          have hA39 := hM38.s (fun _ _ => rfl)
          have hF40 := fun q hq => (o36 q (by omega)).trans (hF1 q hq)
          refine lv_iinc (v := (nI (k + 1))) (lv' := [(1, .int (nI (k + 1))), (0, .ref d)]) hx hb dX6_records_34 hl (k := 1) rfl (nI_inc _) (by decide) rfl (fun ls hl => ?_)
          refine lv_goto (tgt := 11) hx hb dX6_records_37 (by decide) ?_
          exact ih  (k + 1) (fun i => if i = k then (f (k + 818)) else f i) M37 (by omega) (by omega) hM38 hF40 (fun i hi => by show (if i = k then _ else _) = _; by_cases hik : i = k; (· subst hik; rw [if_pos rfl]; exact hg _ (by omega)); (· rw [if_neg hik]; exact hf i (by omega))) (fun i hi => by show (if i = k then _ else _) = _; rw [if_neg (by omega)]; exact hg i (by omega)) _ _ hH hS _ (lv_sub hl [1, 0] rfl)
    exact L11 4091 0 U M (by omega) (by omega) hM hF (fun i hi => absurd hi (Nat.not_lt_zero i)) (fun _ _ => rfl) _ _ hH hS _ (lv_sub hl [1, 0] rfl)

set_option maxHeartbeats 4000000 in
set_option maxRecDepth 100000 in
theorem c_X6_lays0 (l : Launch) (G : zG) (B0 : Nat) (M : Mm) (d : Nat) (sc : Nat → Int32) (v : Wv) (A U L K PD SE SH BU : Nat → Int32) (hM : Md G d sc (xs v A U L K PD SE SH BU) M) (hBd : B0 ≤ d) (j c x : Nat) (hj : j < 12) (hc : c < 60) : zMet l yX6_lays cX6_lays 4 none 0 0 0 G B0 M [.ref d, .int (nI j), .int (nI c), .int (nI x)] none (fun M1 => Md G d sc (xs (vset v (98 + 60 * j + c) x) A U L K PD SE SH BU) M1 ∧ ∀ q, (q < d ∨ d + 10 ≤ q) → M1 q = M q) := by
  refine z_met RX6 [(0, .ref d), (1, .int (nI j)), (2, .int (nI c)), (3, .int (nI x))] (by decide) rfl (Nat.le_of_ble_eq_true rfl) rfl ?_
  intro pg ev s m below meth cd ls hE hin hB0 hH hl
  have hx := hE.1
  have hb := hE.2.1
  have hA : zArr G 0 M (d + 1) 818 (fun i => nI (v i)) := hM.s (fun _ _ => rfl)
  have hF : ∀ q, (q < d ∨ d + 10 ≤ q) → M q = M q := fun _ _ => rfl
  refine z_gen B0 (fun H locs hH hS => ?_) hH
  refine lv_aload_n hx hb dX6_lays_0 rfl (lv_at hl 0 rfl) ?_
  refine z_get (T := TX6) (v := .ref (d + 1)) hE hH hM.1 rfl uw_X6 1 (by decide) fkX6_7 rfl dX6_lays_1 ?_
  refine n_bipush hx hb 98 dX6_lays_4 (by decide) ?_
  refine n_bipush hx hb 60 dX6_lays_6 (by decide) ?_
  refine lv_iload_n hx hb dX6_lays_8 rfl (lv_at hl 1 rfl) ?_
  refine n_imul hx hb dX6_lays_9 ?_
  refine n_iadd hx hb dX6_lays_10 ?_
  refine lv_iload_n hx hb dX6_lays_11 rfl (lv_at hl 2 rfl) ?_
  refine n_iadd hx hb dX6_lays_12 ?_
  refine lv_iload_n hx hb dX6_lays_13 rfl (lv_at hl 3 rfl) ?_
  refine z_iast hE hH hS hA (k := (98 + (60 * j)) + c) (by omega) (by decide) (by omega) dX6_lays_14 (fun H locs M3 hH hS e1 o2 => ?_)
  have hM4 : Md G d sc (xs (vset v ((98 + (60 * j)) + c) x) A U L K PD SE SH BU) M3 := Md.setJ (j := 1) hM (by decide) (zArr.to e1 (fun q _ => by show (if q = _ then nI _ else nI _) = nI (fset _ _ _ q); unfold fset; by_cases hq : q = (98 + (60 * j)) + c <;> (first | (simp [hq]; done) | (rw [if_pos hq, if_pos hq]; rfl) | (rw [if_neg hq, if_neg hq]; rfl)))) (fun i hi => by unfold xs; split <;> first | rfl | exact absurd rfl hi) o2
  have hA6 := hM4.s (fun _ _ => rfl)
  have hF7 := fun q hq => (o2 q (by omega)).trans (hF q hq)
  exact z_vret hE hH hS ⟨hM4, hF7⟩ dX6_lays_15

set_option maxHeartbeats 4000000 in
set_option maxRecDepth 100000 in
theorem c_X6_drops (l : Launch) (G : zG) (B0 : Nat) (M : Mm) (d : Nat) (sc : Nat → Int32) (v : Wv) (A U L K PD SE SH BU : Nat → Int32) (hM : Md G d sc (xs v A U L K PD SE SH BU) M) (hv : wOk v) (hBd : B0 ≤ d) (p : Nat) (hp : p < v 0) : zMet l yX6_drops cX6_drops 3 none 1 0 0 G B0 M [.ref d, .int (nI p)] none (fun M1 => Md G d sc (xs (tearV v p) A U L K PD SE SH BU) M1 ∧ ∀ q, (q < d ∨ d + 10 ≤ q) → M1 q = M q) := by
  refine z_met RX6 [(0, .ref d), (1, .int (nI p))] (by decide) rfl (Nat.le_of_ble_eq_true rfl) rfl ?_
  intro pg ev s m below meth cd ls hE hin hB0 hH hl
  have hx := hE.1
  have hb := hE.2.1
  have hn : v 0 ≤ 12 := hv.1
  have hA : zArr G 0 M (d + 1) 818 (fun i => nI (v i)) := hM.s (fun _ _ => rfl)
  have hF : ∀ q, (q < d ∨ d + 10 ≤ q) → M q = M q := fun _ _ => rfl
  refine z_gen B0 (fun H locs hH hS => ?_) hH
  refine lv_aload_n hx hb dX6_drops_0 rfl (lv_at hl 0 rfl) ?_
  refine z_get (T := TX6) (v := .ref (d + 1)) hE hH hM.1 rfl uw_X6 1 (by decide) fkX6_7 rfl dX6_drops_1 ?_
  refine n_iconst hx hb 0 dX6_drops_4 (by decide) ?_
  refine lv_dup2_11 hx hb dX6_drops_5 rfl rfl ?_
  refine z_iald hE hH hA (k := 0) (by omega) (by decide) dX6_drops_6 ?_
  refine n_iconst hx hb 1 dX6_drops_7 (by decide) ?_
  refine n_isub hx hb (by omega) dX6_drops_8 ?_
  refine z_iast hE hH hS hA (k := 0) (by omega) (by decide) (by omega) dX6_drops_9 (fun H locs M3 hH hS e1 o2 => ?_)
  have hM4 : Md G d sc (xs (vset v (0) ((v (0)) - 1)) A U L K PD SE SH BU) M3 := Md.setJ (j := 1) hM (by decide) (zArr.to e1 (fun q _ => by show (if q = _ then nI _ else nI _) = nI (fset _ _ _ q); unfold fset; by_cases hq : q = 0 <;> (first | (simp [hq]; done) | (rw [if_pos hq, if_pos hq]; rfl) | (rw [if_neg hq, if_neg hq]; rfl)))) (fun i hi => by unfold xs; split <;> first | rfl | exact absurd rfl hi) o2
  have hA6 := hM4.s (fun _ _ => rfl)
  have hF7 := fun q hq => (o2 q (by omega)).trans (hF q hq)
  refine n_bipush hx hb 7 dX6_drops_10 (by decide) ?_
  refine lv_iload_n hx hb dX6_drops_12 rfl (lv_at hl 1 rfl) ?_
  refine n_imul hx hb dX6_drops_13 ?_
  refine lv_istore_n (lv' := [(2, .int (nI (7 * p))), (0, .ref d), (1, .int (nI p))]) hx hb dX6_drops_14 rfl hl (by decide) rfl (fun ls hl => ?_)
  have L15 : ∀ (dd : Nat) (k : Nat) (u : Wv) (M1 : Mm), 7 * (v 0 - 1) < k + dd → (k ≤ 7 * (v 0 - 1)) → (Md G d sc (xs u A U L K PD SE SH BU) M1) → (∀ q, (q < d ∨ d + 10 ≤ q) → M1 q = M q) → (∀ i, u i = trA v p k i) → (7 * p ≤ k) → ∀ (H : Heap) (locs : List Loc), zH G M1 H → zS 0 B0 s.heap H locs → ∀ (ls : Array Slot), lv_has ls 3 [(0, .ref d), (1, .int (nI p)), (2, .int (nI k))] → zW pg l ev 1 0 0 s m [.ref d, .int (nI p)] below meth cd H locs 0 0 G B0 none (fun M1 => Md G d sc (xs (tearV v p) A U L K PD SE SH BU) M1 ∧ ∀ q, (q < d ∨ d + 10 ≤ q) → M1 q = M q) (F0 m 15 ls []) := by
    intro dd
    induction dd with
    | zero =>
      intro k u M1 hdd hk hM1 hF1 hu hk2
      exact absurd hdd (by omega)
    | succ dd ih =>
      intro k u M1 hdd hk hM1 hF1 hu hk2 H locs hH hS ls hl
      have hA1 : zArr G 0 M1 (d + 1) 818 (fun i => nI (u i)) := hM1.s (fun _ _ => rfl)
      have hu0 : u 0 = v 0 - 1 := by rw [hu]; exact rfl
      refine lv_iload_n hx hb dX6_drops_15 rfl (lv_at hl 2 rfl) ?_
      refine n_bipush hx hb 7 dX6_drops_16 (by decide) ?_
      refine lv_aload_n hx hb dX6_drops_18 rfl (lv_at hl 0 rfl) ?_
      refine z_get (T := TX6) (v := .ref (d + 1)) hE hH hM1.1 rfl uw_X6 1 (by decide) fkX6_7 rfl dX6_drops_19 ?_
      refine n_iconst hx hb 0 dX6_drops_22 (by decide) ?_
      refine z_iald hE hH hA1 (k := 0) (by omega) (by decide) dX6_drops_23 ?_
      refine n_imul hx hb dX6_drops_24 ?_
      refine n_cmp_ge (tgt := 55) hx hb (by omega) (by omega) dX6_drops_25 (by decide) (fun h8 => ?_) (fun h8 => ?_)
      · refine n_bipush hx hb 60 dX6_drops_55 (by decide) ?_
        refine lv_iload_n hx hb dX6_drops_57 rfl (lv_at hl 1 rfl) ?_
        refine n_imul hx hb dX6_drops_58 ?_
        refine lv_istore_n (lv' := [(2, .int (nI (60 * p))), (0, .ref d), (1, .int (nI p))]) hx hb dX6_drops_59 rfl hl (by decide) rfl (fun ls hl => ?_)
        have L60 : ∀ (dd60 : Nat) (k : Nat) (u : Wv) (M1 : Mm), 60 * (v 0 - 1) < k + dd60 → (k ≤ 60 * (v 0 - 1)) → (Md G d sc (xs u A U L K PD SE SH BU) M1) → (∀ q, (q < d ∨ d + 10 ≤ q) → M1 q = M q) → (∀ i, u i = trB v p k i) → (60 * p ≤ k) → ∀ (H : Heap) (locs : List Loc), zH G M1 H → zS 0 B0 s.heap H locs → ∀ (ls : Array Slot), lv_has ls 3 [(0, .ref d), (1, .int (nI p)), (2, .int (nI k))] → zW pg l ev 1 0 0 s m [.ref d, .int (nI p)] below meth cd H locs 0 0 G B0 none (fun M1 => Md G d sc (xs (tearV v p) A U L K PD SE SH BU) M1 ∧ ∀ q, (q < d ∨ d + 10 ≤ q) → M1 q = M q) (F0 m 60 ls []) := by
          intro dd60
          induction dd60 with
          | zero =>
            intro k u M1 hdd60 hk hM1 hF1 hu hk2
            exact absurd hdd60 (by omega)
          | succ dd60 ih60 =>
            intro k u M1 hdd60 hk hM1 hF1 hu hk2 H locs hH hS ls hl
            have hA1 : zArr G 0 M1 (d + 1) 818 (fun i => nI (u i)) := hM1.s (fun _ _ => rfl)
            have hu0 : u 0 = v 0 - 1 := by rw [hu]; exact trB_v0 hn hp
            refine lv_iload_n hx hb dX6_drops_60 rfl (lv_at hl 2 rfl) ?_
            refine n_bipush hx hb 60 dX6_drops_61 (by decide) ?_
            refine lv_aload_n hx hb dX6_drops_63 rfl (lv_at hl 0 rfl) ?_
            refine z_get (T := TX6) (v := .ref (d + 1)) hE hH hM1.1 rfl uw_X6 1 (by decide) fkX6_7 rfl dX6_drops_64 ?_
            refine n_iconst hx hb 0 dX6_drops_67 (by decide) ?_
            refine z_iald hE hH hA1 (k := 0) (by omega) (by decide) dX6_drops_68 ?_
            refine n_imul hx hb dX6_drops_69 ?_
            refine n_cmp_ge (tgt := 100) hx hb (by omega) (by omega) dX6_drops_70 (by decide) (fun h9 => ?_) (fun h9 => ?_)
            · refine n_iconst hx hb 0 dX6_drops_100 (by decide) ?_
              refine lv_istore_n (lv' := [(2, .int (nI 0)), (0, .ref d), (1, .int (nI p))]) hx hb dX6_drops_101 rfl hl (by decide) rfl (fun ls hl => ?_)
              have L102 : ∀ (dd102 : Nat) (k : Nat) (u : Wv) (M1 : Mm), 7 < k + dd102 → (k ≤ 7) → (Md G d sc (xs u A U L K PD SE SH BU) M1) → (∀ q, (q < d ∨ d + 10 ≤ q) → M1 q = M q) → (∀ i, u i = trC v p k i) → ∀ (H : Heap) (locs : List Loc), zH G M1 H → zS 0 B0 s.heap H locs → ∀ (ls : Array Slot), lv_has ls 3 [(0, .ref d), (1, .int (nI p)), (2, .int (nI k))] → zW pg l ev 1 0 0 s m [.ref d, .int (nI p)] below meth cd H locs 0 0 G B0 none (fun M1 => Md G d sc (xs (tearV v p) A U L K PD SE SH BU) M1 ∧ ∀ q, (q < d ∨ d + 10 ≤ q) → M1 q = M q) (F0 m 102 ls []) := by
                intro dd102
                induction dd102 with
                | zero =>
                  intro k u M1 hdd102 hk hM1 hF1 hu
                  exact absurd hdd102 (by omega)
                | succ dd102 ih102 =>
                  intro k u M1 hdd102 hk hM1 hF1 hu H locs hH hS ls hl
                  have hA1 : zArr G 0 M1 (d + 1) 818 (fun i => nI (u i)) := hM1.s (fun _ _ => rfl)
                  have hu0 : u 0 = v 0 - 1 := by rw [hu]; exact trC_v0 hn hp
                  refine lv_iload_n hx hb dX6_drops_102 rfl (lv_at hl 2 rfl) ?_
                  refine n_bipush hx hb 7 dX6_drops_103 (by decide) ?_
                  refine n_cmp_ge (tgt := 134) hx hb (by omega) (by decide) dX6_drops_105 (by decide) (fun h10 => ?_) (fun h10 => ?_)
                  · refine n_iconst hx hb 0 dX6_drops_134 (by decide) ?_
                    refine lv_istore_n (lv' := [(2, .int (nI 0)), (0, .ref d), (1, .int (nI p))]) hx hb dX6_drops_135 rfl hl (by decide) rfl (fun ls hl => ?_)
                    have L136 : ∀ (dd136 : Nat) (k : Nat) (u : Wv) (M1 : Mm), 60 < k + dd136 → (k ≤ 60) → (Md G d sc (xs u A U L K PD SE SH BU) M1) → (∀ q, (q < d ∨ d + 10 ≤ q) → M1 q = M q) → (∀ i, u i = trD v p k i) → ∀ (H : Heap) (locs : List Loc), zH G M1 H → zS 0 B0 s.heap H locs → ∀ (ls : Array Slot), lv_has ls 3 [(0, .ref d), (1, .int (nI p)), (2, .int (nI k))] → zW pg l ev 1 0 0 s m [.ref d, .int (nI p)] below meth cd H locs 0 0 G B0 none (fun M1 => Md G d sc (xs (tearV v p) A U L K PD SE SH BU) M1 ∧ ∀ q, (q < d ∨ d + 10 ≤ q) → M1 q = M q) (F0 m 136 ls []) := by
                      intro dd136
                      induction dd136 with
                      | zero =>
                        intro k u M1 hdd136 hk hM1 hF1 hu
                        exact absurd hdd136 (by omega)
                      | succ dd136 ih136 =>
                        intro k u M1 hdd136 hk hM1 hF1 hu H locs hH hS ls hl
                        have hA1 : zArr G 0 M1 (d + 1) 818 (fun i => nI (u i)) := hM1.s (fun _ _ => rfl)
                        have hu0 : u 0 = v 0 - 1 := by rw [hu]; exact trD_v0 hn hp
                        refine lv_iload_n hx hb dX6_drops_136 rfl (lv_at hl 2 rfl) ?_
                        refine n_bipush hx hb 60 dX6_drops_137 (by decide) ?_
                        refine n_cmp_ge (tgt := 160) hx hb (by omega) (by decide) dX6_drops_139 (by decide) (fun h11 => ?_) (fun h11 => ?_)
                        · exact z_vret hE hH hS ⟨hM1.to (j := 1) (fun i hi => congrArg nI (trD_e hn hp hk (by omega) hu i)) (fun i hi => by unfold xs; split <;> first | rfl | exact absurd rfl hi), hF1⟩ dX6_drops_160
                        · refine lv_aload_n hx hb dX6_drops_142 rfl (lv_at hl 0 rfl) ?_
                          refine lv_aload_n hx hb dX6_drops_143 rfl (lv_at hl 0 rfl) ?_
                          refine z_get (T := TX6) (v := .ref (d + 1)) hE hH hM1.1 rfl uw_X6 1 (by decide) fkX6_7 rfl dX6_drops_144 ?_
                          refine n_iconst hx hb 0 dX6_drops_147 (by decide) ?_
                          refine z_iald hE hH hA1 (k := 0) (by omega) (by decide) dX6_drops_148 ?_
                          refine lv_iload_n hx hb dX6_drops_149 rfl (lv_at hl 2 rfl) ?_
                          refine n_iconst hx hb 0 dX6_drops_150 (by decide) ?_
                          refine z_callV (rest := []) (st2 := []) hE hH hS hB0 hl ca_X6_lays mkX6_63 (c_X6_lays0 l G B0 M1 d sc u A U L K PD SE SH BU hM1 (by omega) (u (0)) k 0 (by omega) (by omega)) hM1.1 rfl rfl rfl rfl rfl ⟨Nat.le_of_ble_eq_true rfl, Nat.le_of_ble_eq_true rfl⟩ (Nat.le_of_ble_eq_true rfl) ⟨Nat.le_refl _, Nat.le_refl _⟩ dX6_drops_151 (fun H locs M12 hH hp hS => ?_)
                          obtain ⟨hM13, hG14⟩ := hp
                          have hA16 := hM13.s (fun _ _ => rfl)
                          have hF15 := fun q hq => (hG14 q hq).trans (hF1 q hq)
                          refine lv_iinc (v := (nI (k + 1))) (lv' := [(2, .int (nI (k + 1))), (0, .ref d), (1, .int (nI p))]) hx hb dX6_drops_154 hl (k := 2) rfl (nI_inc _) (by decide) rfl (fun ls hl => ?_)
                          refine lv_goto (tgt := 136) hx hb dX6_drops_157 (by decide) ?_
                          exact ih136  (k + 1) (vset u (98 + 60 * (u (0)) + k) 0) M12 (by omega) (by omega) hM13 hF15 (trD_s hn hp (by omega) hu0 hu) _ _ hH hS _ (lv_sub hl [1, 2, 0] rfl)
                    exact L136 (60 + 1) 0 u M1 (by omega) (by omega) hM1 hF1 (trD_0 hn hp hk (by omega) hu) _ _ hH hS _ (lv_sub hl [1, 2, 0] rfl)
                  · refine lv_aload_n hx hb dX6_drops_108 rfl (lv_at hl 0 rfl) ?_
                    refine z_get (T := TX6) (v := .ref (d + 1)) hE hH hM1.1 rfl uw_X6 1 (by decide) fkX6_7 rfl dX6_drops_109 ?_
                    refine n_bipush hx hb 14 dX6_drops_112 (by decide) ?_
                    refine n_bipush hx hb 7 dX6_drops_114 (by decide) ?_
                    refine lv_aload_n hx hb dX6_drops_116 rfl (lv_at hl 0 rfl) ?_
                    refine z_get (T := TX6) (v := .ref (d + 1)) hE hH hM1.1 rfl uw_X6 1 (by decide) fkX6_7 rfl dX6_drops_117 ?_
                    refine n_iconst hx hb 0 dX6_drops_120 (by decide) ?_
                    refine z_iald hE hH hA1 (k := 0) (by omega) (by decide) dX6_drops_121 ?_
                    refine n_imul hx hb dX6_drops_122 ?_
                    refine n_iadd hx hb dX6_drops_123 ?_
                    refine lv_iload_n hx hb dX6_drops_124 rfl (lv_at hl 2 rfl) ?_
                    refine n_iadd hx hb dX6_drops_125 ?_
                    refine n_iconst hx hb 0 dX6_drops_126 (by decide) ?_
                    refine z_iast hE hH hS hA1 (k := (14 + (7 * (u (0)))) + k) (by omega) (by decide) (by omega) dX6_drops_127 (fun H locs M19 hH hS e17 o18 => ?_)
                    have hM20 : Md G d sc (xs (vset u ((14 + (7 * (u (0)))) + k) 0) A U L K PD SE SH BU) M19 := Md.setJ (j := 1) hM1 (by decide) (zArr.to e17 (fun q _ => by show (if q = _ then nI _ else nI _) = nI (fset _ _ _ q); unfold fset; by_cases hq : q = (14 + (7 * (u (0)))) + k <;> (first | (simp [hq]; done) | (rw [if_pos hq, if_pos hq]; rfl) | (rw [if_neg hq, if_neg hq]; rfl)))) (fun i hi => by unfold xs; split <;> first | rfl | exact absurd rfl hi) o18
                    have hA22 := hM20.s (fun _ _ => rfl)
                    have hF23 := fun q hq => (o18 q (by omega)).trans (hF1 q hq)
                    refine lv_iinc (v := (nI (k + 1))) (lv' := [(2, .int (nI (k + 1))), (0, .ref d), (1, .int (nI p))]) hx hb dX6_drops_128 hl (k := 2) rfl (nI_inc _) (by decide) rfl (fun ls hl => ?_)
                    refine lv_goto (tgt := 102) hx hb dX6_drops_131 (by decide) ?_
                    exact ih102  (k + 1) (vset u ((14 + (7 * (u (0)))) + k) 0) M19 (by omega) (by omega) hM20 hF23 (trC_s hn hp (by omega) hu0 hu) _ _ hH hS _ (lv_sub hl [1, 2, 0] rfl)
              exact L102 (7 + 1) 0 u M1 (by omega) (by omega) hM1 hF1 (trC_0 hn hp hk (by omega) hu) _ _ hH hS _ (lv_sub hl [1, 2, 0] rfl)
            · refine lv_aload_n hx hb dX6_drops_73 rfl (lv_at hl 0 rfl) ?_
              refine z_get (T := TX6) (v := .ref (d + 1)) hE hH hM1.1 rfl uw_X6 1 (by decide) fkX6_7 rfl dX6_drops_74 ?_
              refine n_bipush hx hb 98 dX6_drops_77 (by decide) ?_
              refine lv_iload_n hx hb dX6_drops_79 rfl (lv_at hl 2 rfl) ?_
              refine n_iadd hx hb dX6_drops_80 ?_
              refine lv_aload_n hx hb dX6_drops_81 rfl (lv_at hl 0 rfl) ?_
              refine z_get (T := TX6) (v := .ref (d + 1)) hE hH hM1.1 rfl uw_X6 1 (by decide) fkX6_7 rfl dX6_drops_82 ?_
              refine n_bipush hx hb 98 dX6_drops_85 (by decide) ?_
              refine lv_iload_n hx hb dX6_drops_87 rfl (lv_at hl 2 rfl) ?_
              refine n_iadd hx hb dX6_drops_88 ?_
              refine n_bipush hx hb 60 dX6_drops_89 (by decide) ?_
              refine n_iadd hx hb dX6_drops_91 ?_
              refine z_iald hE hH hA1 (k := (98 + k) + 60) (by omega) (by decide) dX6_drops_92 ?_
              refine z_iast hE hH hS hA1 (k := 98 + k) (by omega) (by decide) (by omega) dX6_drops_93 (fun H locs M26 hH hS e24 o25 => ?_)
              have hM27 : Md G d sc (xs (vset u (98 + k) (u ((98 + k) + 60))) A U L K PD SE SH BU) M26 := Md.setJ (j := 1) hM1 (by decide) (zArr.to e24 (fun q _ => by show (if q = _ then nI _ else nI _) = nI (fset _ _ _ q); unfold fset; by_cases hq : q = 98 + k <;> (first | (simp [hq]; done) | (rw [if_pos hq, if_pos hq]; rfl) | (rw [if_neg hq, if_neg hq]; rfl)))) (fun i hi => by unfold xs; split <;> first | rfl | exact absurd rfl hi) o25
              have hA29 := hM27.s (fun _ _ => rfl)
              have hF30 := fun q hq => (o25 q (by omega)).trans (hF1 q hq)
              refine lv_iinc (v := (nI (k + 1))) (lv' := [(2, .int (nI (k + 1))), (0, .ref d), (1, .int (nI p))]) hx hb dX6_drops_94 hl (k := 2) rfl (nI_inc _) (by decide) rfl (fun ls hl => ?_)
              refine lv_goto (tgt := 60) hx hb dX6_drops_97 (by decide) ?_
              exact ih60  (k + 1) (vset u (98 + k) (u ((98 + k) + 60))) M26 (by omega) (by omega) hM27 hF30 (trB_s hn hp (by omega) hk2 hu) (by omega) _ _ hH hS _ (lv_sub hl [1, 2, 0] rfl)
        exact L60 (60 * (v 0 - 1) + 1) (60 * p) u M1 (by omega) (by omega) hM1 hF1 (trB_0 hn hp hk (by omega) hu) (by omega) _ _ hH hS _ (lv_sub hl [1, 2, 0] rfl)
      · refine lv_aload_n hx hb dX6_drops_28 rfl (lv_at hl 0 rfl) ?_
        refine z_get (T := TX6) (v := .ref (d + 1)) hE hH hM1.1 rfl uw_X6 1 (by decide) fkX6_7 rfl dX6_drops_29 ?_
        refine n_bipush hx hb 14 dX6_drops_32 (by decide) ?_
        refine lv_iload_n hx hb dX6_drops_34 rfl (lv_at hl 2 rfl) ?_
        refine n_iadd hx hb dX6_drops_35 ?_
        refine lv_aload_n hx hb dX6_drops_36 rfl (lv_at hl 0 rfl) ?_
        refine z_get (T := TX6) (v := .ref (d + 1)) hE hH hM1.1 rfl uw_X6 1 (by decide) fkX6_7 rfl dX6_drops_37 ?_
        refine n_bipush hx hb 14 dX6_drops_40 (by decide) ?_
        refine lv_iload_n hx hb dX6_drops_42 rfl (lv_at hl 2 rfl) ?_
        refine n_iadd hx hb dX6_drops_43 ?_
        refine n_bipush hx hb 7 dX6_drops_44 (by decide) ?_
        refine n_iadd hx hb dX6_drops_46 ?_
        refine z_iald hE hH hA1 (k := (14 + k) + 7) (by omega) (by decide) dX6_drops_47 ?_
        refine z_iast hE hH hS hA1 (k := 14 + k) (by omega) (by decide) (by omega) dX6_drops_48 (fun H locs M33 hH hS e31 o32 => ?_)
        have hM34 : Md G d sc (xs (vset u (14 + k) (u ((14 + k) + 7))) A U L K PD SE SH BU) M33 := Md.setJ (j := 1) hM1 (by decide) (zArr.to e31 (fun q _ => by show (if q = _ then nI _ else nI _) = nI (fset _ _ _ q); unfold fset; by_cases hq : q = 14 + k <;> (first | (simp [hq]; done) | (rw [if_pos hq, if_pos hq]; rfl) | (rw [if_neg hq, if_neg hq]; rfl)))) (fun i hi => by unfold xs; split <;> first | rfl | exact absurd rfl hi) o32
        have hA36 := hM34.s (fun _ _ => rfl)
        have hF37 := fun q hq => (o32 q (by omega)).trans (hF1 q hq)
        refine lv_iinc (v := (nI (k + 1))) (lv' := [(2, .int (nI (k + 1))), (0, .ref d), (1, .int (nI p))]) hx hb dX6_drops_49 hl (k := 2) rfl (nI_inc _) (by decide) rfl (fun ls hl => ?_)
        refine lv_goto (tgt := 15) hx hb dX6_drops_52 (by decide) ?_
        exact ih  (k + 1) (vset u (14 + k) (u ((14 + k) + 7))) M33 (by omega) (by omega) hM34 hF37 (trA_s hn hp (by omega) hk2 hu) (by omega) _ _ hH hS _ (lv_sub hl [1, 2, 0] rfl)
  exact L15 (7 * (v 0 - 1) + 1) (7 * p) (vset v (0) ((v (0)) - 1)) M3 (by omega) (by omega) hM4 hF7 (fun i => trA_0 i) (by omega) _ _ hH hS _ (lv_sub hl [1, 2, 0] rfl)

set_option maxHeartbeats 4000000 in
set_option maxRecDepth 100000 in
theorem c_X6_overWall_2 (l : Launch) (G : zG) (B0 : Nat) (M : Mm) (d : Nat) (sc : Nat → Int32) (v : Wv) (A U L K PD SE SH BU : Nat → Int32) (hM : Md G d sc (xs v A U L K PD SE SH BU) M) (hv : wOk v) (hBd : B0 ≤ d) : zMet l yX6_overWall cX6_overWall 7 (some .int) 5 0 0 G B0 M [.ref d, .int (nI 2)] (some (.int (nI (pricedCnt v)))) (fun M1 => Md G d sc (xs v A U L K PD SE (fun k => oI (prc v (-6) k)) BU) M1 ∧ ∀ q, (q < d ∨ d + 10 ≤ q) → M1 q = M q) := by
  refine z_met RX6 [(0, .ref d), (1, .int (nI 2))] (by decide) rfl (Nat.le_of_ble_eq_true rfl) rfl ?_
  intro pg ev s m below meth cd ls hE hin hB0 hH hl
  have hx := hE.1
  have hb := hE.2.1
  have hn : v 0 ≤ 12 := hv.1
  have hA : zArr G 0 M (d + 1) 818 (fun i => nI (v i)) := hM.s (fun _ _ => rfl)
  have hF : ∀ q, (q < d ∨ d + 10 ≤ q) → M q = M q := fun _ _ => rfl
  refine z_gen B0 (fun H locs hH hS => ?_) hH
  refine lv_aload_n hx hb dX6_overWall_0 rfl (lv_at hl 0 rfl) ?_
  refine z_callV (rest := []) (st2 := []) hE hH hS hB0 hl ca_X6_laysShown mkX6_117 (c_X6_laysShown l G B0 M d sc v A U L K PD SE SH BU hM hv (by omega) ) hM.1 rfl rfl rfl rfl rfl ⟨Nat.le_of_ble_eq_true rfl, Nat.le_of_ble_eq_true rfl⟩ (Nat.le_of_ble_eq_true rfl) ⟨Nat.le_refl _, Nat.le_refl _⟩ dX6_overWall_1 (fun H locs M1 hH hp hS => ?_)
  obtain ⟨hM2, hG3⟩ := hp
  have hA5 := hM2.s (fun _ _ => rfl)
  have hF4 := fun q hq => (hG3 q hq).trans (hF q hq)
  refine n_iconst hx hb 0 dX6_overWall_4 (by decide) ?_
  refine lv_istore_n (lv' := [(2, .int (nI 0)), (0, .ref d), (1, .int (nI 2))]) hx hb dX6_overWall_5 rfl hl (by decide) rfl (fun ls hl => ?_)
  refine lv_bipush (v := (-6)) hx hb dX6_overWall_6 (by decide) ?_
  refine lv_istore_n (lv' := [(3, .int (-6)), (2, .int (nI 0)), (0, .ref d), (1, .int (nI 2))]) hx hb dX6_overWall_8 rfl hl (by decide) rfl (fun ls hl => ?_)
  refine n_iconst hx hb 0 dX6_overWall_9 (by decide) ?_
  refine lv_istore (lv' := [(4, .int (nI 0)), (3, .int (-6)), (2, .int (nI 0)), (0, .ref d), (1, .int (nI 2))]) hx hb dX6_overWall_10 hl (by decide) rfl (fun ls hl => ?_)
  have L12 : ∀ (dd : Nat) (c : Nat) (n : Nat) (mo : Option Nat), 60 < c + dd → (c ≤ 60) → (n = zcnt (fun c => (seen v (-6) c).isSome) c) → (mo = grtTo v c) → ∀ (H : Heap) (locs : List Loc), zH G M1 H → zS 0 B0 s.heap H locs → ∀ (ls : Array Slot), lv_has ls 7 [(0, .ref d), (1, .int (nI 2)), (2, .int (nI n)), (3, .int (oI mo)), (4, .int (nI c))] → zW pg l ev 5 0 0 s m [.ref d, .int (nI 2)] below meth cd H locs 0 0 G B0 (some (.int (nI (pricedCnt v)))) (fun M1 => Md G d sc (xs v A U L K PD SE (fun k => oI (prc v (-6) k)) BU) M1 ∧ ∀ q, (q < d ∨ d + 10 ≤ q) → M1 q = M q) (F0 m 12 ls []) := by
    intro dd
    induction dd with
    | zero =>
      intro c n mo hdd hc hN ho
      exact absurd hdd (by omega)
    | succ dd ih =>
      intro c n mo hdd hc hN ho H locs hH hS ls hl
      refine lv_iload hx hb dX6_overWall_12 (lv_at hl 4 rfl) ?_
      refine n_bipush hx hb 60 dX6_overWall_14 (by decide) ?_
      refine n_cmp_ge (tgt := 126) hx hb (by omega) (by decide) dX6_overWall_16 (by decide) (fun h6 => ?_) (fun h6 => ?_)
      · refine lv_iload_n hx hb dX6_overWall_126 rfl (lv_at hl 1 rfl) ?_
        refine n_iconst hx hb 4 dX6_overWall_127 (by decide) ?_
        refine n_cmp_ne (tgt := 135) hx hb (by decide) (by decide) dX6_overWall_128 (by decide) (fun _ => ?_) (fun h => absurd h (by decide))
        refine lv_iload_n hx hb dX6_overWall_135 rfl (lv_at hl 2 rfl) ?_
        exact z_iret hE hH hS (by have hkk : c = 60 := (by omega); subst hkk; rw [hN]; first | done | rfl) ⟨hM2, hF4⟩ dX6_overWall_136
      · refine n_iconst hx hb 1 dX6_overWall_19 (by decide) ?_
        refine lv_istore (lv' := [(5, .int (nI 1)), (0, .ref d), (1, .int (nI 2)), (2, .int (nI n)), (3, .int (oI mo)), (4, .int (nI c))]) hx hb dX6_overWall_20 hl (by decide) rfl (fun ls hl => ?_)
        refine n_iconst hx hb 0 dX6_overWall_22 (by decide) ?_
        refine lv_istore (lv' := [(6, .int (nI 0)), (5, .int (nI 1)), (0, .ref d), (1, .int (nI 2)), (2, .int (nI n)), (3, .int (oI mo)), (4, .int (nI c))]) hx hb dX6_overWall_23 hl (by decide) rfl (fun ls hl => ?_)
        have L25 : ∀ (dd25 : Nat) (b : Bool) (o : Nat), c < o + dd25 → (o ≤ c) → (b = nwB v c o) → ∀ (H : Heap) (locs : List Loc), zH G M1 H → zS 0 B0 s.heap H locs → ∀ (ls : Array Slot), lv_has ls 7 [(0, .ref d), (1, .int (nI 2)), (2, .int (nI n)), (3, .int (oI mo)), (4, .int (nI c)), (5, .int (zb b)), (6, .int (nI o))] → zW pg l ev 5 0 0 s m [.ref d, .int (nI 2)] below meth cd H locs 0 0 G B0 (some (.int (nI (pricedCnt v)))) (fun M1 => Md G d sc (xs v A U L K PD SE (fun k => oI (prc v (-6) k)) BU) M1 ∧ ∀ q, (q < d ∨ d + 10 ≤ q) → M1 q = M q) (F0 m 25 ls []) := by
          intro dd25
          induction dd25 with
          | zero =>
            intro b o hdd25 hoc hbq
            exact absurd hdd25 (by omega)
          | succ dd25 ih25 =>
            intro b o hdd25 hoc hbq H locs hH hS ls hl
            refine lv_iload hx hb dX6_overWall_25 (lv_at hl 6 rfl) ?_
            refine lv_iload hx hb dX6_overWall_27 (lv_at hl 4 rfl) ?_
            refine n_cmp_ge (tgt := 67) hx hb (by omega) (by omega) dX6_overWall_29 (by decide) (fun h7 => ?_) (fun h7 => ?_)
            · have hoc2 : o = c := by omega
              rw [hoc2] at hbq
              refine lv_iload_n hx hb dX6_overWall_67 rfl (lv_at hl 2 rfl) ?_
              refine lv_aload_n hx hb dX6_overWall_68 rfl (lv_at hl 0 rfl) ?_
              refine z_get (T := TX6) (v := .ref (d + 8)) hE hH hM2.1 rfl uw_X6 10 (by decide) fkX6_32 rfl dX6_overWall_69 ?_
              refine lv_iload hx hb dX6_overWall_72 (lv_at hl 4 rfl) ?_
              refine z_iald hE hH (show zArr G 0 M1 (d + 8) 60 (fun k => oI (prc v (-6) k)) from hM2.2 8 (by decide) (by decide)) (k := c) (by omega) (by decide) dX6_overWall_74 ?_
              refine lv_bipush (v := (-6)) hx hb dX6_overWall_75 (by decide) ?_
              refine o_cmp_eq (tgt := 94) hx hb (prc_ob31 hv) dX6_overWall_77 (by decide) (fun h8 => ?_) (fun j9 h8 => ?_)
              · refine n_iconst hx hb 0 dX6_overWall_94 (by decide) ?_
                refine n_iadd hx hb dX6_overWall_95 ?_
                refine lv_istore_n (lv' := [(2, .int (nI (n + 0))), (0, .ref d), (1, .int (nI 2)), (3, .int (oI mo)), (4, .int (nI c)), (5, .int (zb b)), (6, .int (nI o))]) hx hb dX6_overWall_96 rfl hl (by decide) rfl (fun ls hl => ?_)
                refine lv_aload_n hx hb dX6_overWall_97 rfl (lv_at hl 1 rfl) ?_
                refine z_get (T := TX6) (v := .ref (d + 8)) hE hH hM2.1 rfl uw_X6 10 (by decide) fkX6_32 rfl dX6_overWall_98 ?_
                refine lv_iload hx hb dX6_overWall_101 (lv_at hl 4 rfl) ?_
                refine z_iald hE hH (show zArr G 0 M1 (d + 8) 60 (fun k => oI (prc v (-6) k)) from hM2.2 8 (by decide) (by decide)) (k := c) (by omega) (by decide) dX6_overWall_103 ?_
                refine z_topeq (show oI (prc v (-6) c) = (-6) from by rw [h8]; rfl) ?_
                refine lv_iload_n hx hb dX6_overWall_104 rfl (lv_at hl 3 rfl) ?_
                refine mo_cmp_le (tgt := 118) hx hb (by rw [ho]; exact grt_ob hv c) dX6_overWall_105 (by decide) ?_
                refine lv_iload_n hx hb dX6_overWall_118 rfl (lv_at hl 3 rfl) ?_
                refine lv_istore_n (lv' := [(3, .int (oI mo)), (2, .int (nI (n + 0))), (0, .ref d), (1, .int (nI 2)), (4, .int (nI c)), (5, .int (zb b)), (6, .int (nI o))]) hx hb dX6_overWall_119 rfl hl (by decide) rfl (fun ls hl => ?_)
                refine lv_iinc (v := (nI (c + 1))) (lv' := [(4, .int (nI (c + 1))), (3, .int (oI mo)), (2, .int (nI (n + 0))), (0, .ref d), (1, .int (nI 2)), (5, .int (zb b)), (6, .int (nI o))]) hx hb dX6_overWall_120 hl (k := 4) rfl (nI_inc _) (by decide) rfl (fun ls hl => ?_)
                refine lv_goto (tgt := 12) hx hb dX6_overWall_123 (by decide) ?_
                exact ih  (c + 1) (n + 0) mo (by omega) (by omega) (by unfold zcnt; rw [← hN]; simp [← prc_isSome, h8]; try omega) (grt_none h8 ho) _ _ hH hS _ (lv_sub hl [3, 4, 2, 1, 0] rfl)
              · replace hl : lv_has ls 7 [(0, .ref d), (1, .int (nI 2)), (2, .int (nI n)), (3, .int (oI mo)), (4, .int (nI c)), (5, .int (zb b)), (6, .int (nI o))] := hl
                have j9_b := prc_ob hv _ h8
                refine lv_iload_n hx hb dX6_overWall_80 rfl (lv_at hl 1 rfl) ?_
                refine n_iconst hx hb 2 dX6_overWall_81 (by decide) ?_
                refine n_cmp_eq (tgt := 90) hx hb (by decide) (by decide) dX6_overWall_82 (by decide) (fun _ => ?_) (fun h => absurd rfl h)
                refine n_iconst hx hb 1 dX6_overWall_90 (by decide) ?_
                refine lv_goto (tgt := 95) hx hb dX6_overWall_91 (by decide) ?_
                refine n_iadd hx hb dX6_overWall_95 ?_
                refine lv_istore_n (lv' := [(2, .int (nI (n + 1))), (0, .ref d), (1, .int (nI 2)), (3, .int (oI mo)), (4, .int (nI c)), (5, .int (zb b)), (6, .int (nI o))]) hx hb dX6_overWall_96 rfl hl (by decide) rfl (fun ls hl => ?_)
                refine lv_aload_n hx hb dX6_overWall_97 rfl (lv_at hl 1 rfl) ?_
                refine z_get (T := TX6) (v := .ref (d + 8)) hE hH hM2.1 rfl uw_X6 10 (by decide) fkX6_32 rfl dX6_overWall_98 ?_
                refine lv_iload hx hb dX6_overWall_101 (lv_at hl 4 rfl) ?_
                refine z_iald hE hH (show zArr G 0 M1 (d + 8) 60 (fun k => oI (prc v (-6) k)) from hM2.2 8 (by decide) (by decide)) (k := c) (by omega) (by decide) dX6_overWall_103 ?_
                refine z_topeq (show oI (prc v (-6) c) = nI j9 from by rw [h8]; rfl) ?_
                refine lv_iload_n hx hb dX6_overWall_104 rfl (lv_at hl 3 rfl) ?_
                refine no_cmp_le (tgt := 118) hx hb (by omega) (fun j h => by rw [ho] at h; exact grt_ob hv c j h) dX6_overWall_105 (by decide) (fun j11 h10e h10 => ?_) (fun h10 => ?_)
                · refine lv_iload_n hx hb dX6_overWall_118 rfl (lv_at hl 3 rfl) ?_
                  refine lv_istore_n (lv' := [(3, .int (oI mo)), (2, .int (nI (n + 1))), (0, .ref d), (1, .int (nI 2)), (4, .int (nI c)), (5, .int (zb b)), (6, .int (nI o))]) hx hb dX6_overWall_119 rfl hl (by decide) rfl (fun ls hl => ?_)
                  refine lv_iinc (v := (nI (c + 1))) (lv' := [(4, .int (nI (c + 1))), (3, .int (oI mo)), (2, .int (nI (n + 1))), (0, .ref d), (1, .int (nI 2)), (5, .int (zb b)), (6, .int (nI o))]) hx hb dX6_overWall_120 hl (k := 4) rfl (nI_inc _) (by decide) rfl (fun ls hl => ?_)
                  refine lv_goto (tgt := 12) hx hb dX6_overWall_123 (by decide) ?_
                  exact ih  (c + 1) (n + 1) mo (by omega) (by omega) (by unfold zcnt; rw [← hN]; simp [← prc_isSome, h8]; try omega) (grt_le h8 ho h10e h10) _ _ hH hS _ (lv_sub hl [3, 4, 2, 1, 0] rfl)
                · refine lv_aload_n hx hb dX6_overWall_108 rfl (lv_at hl 1 rfl) ?_
                  refine z_get (T := TX6) (v := .ref (d + 8)) hE hH hM2.1 rfl uw_X6 10 (by decide) fkX6_32 rfl dX6_overWall_109 ?_
                  refine lv_iload hx hb dX6_overWall_112 (lv_at hl 4 rfl) ?_
                  refine z_iald hE hH (show zArr G 0 M1 (d + 8) 60 (fun k => oI (prc v (-6) k)) from hM2.2 8 (by decide) (by decide)) (k := c) (by omega) (by decide) dX6_overWall_114 ?_
                  refine z_topeq (show oI (prc v (-6) c) = nI j9 from by rw [h8]; rfl) ?_
                  refine lv_goto (tgt := 119) hx hb dX6_overWall_115 (by decide) ?_
                  refine lv_istore_n (lv' := [(3, .int (nI j9)), (2, .int (nI (n + 1))), (0, .ref d), (1, .int (nI 2)), (4, .int (nI c)), (5, .int (zb b)), (6, .int (nI o))]) hx hb dX6_overWall_119 rfl hl (by decide) rfl (fun ls hl => ?_)
                  refine lv_iinc (v := (nI (c + 1))) (lv' := [(4, .int (nI (c + 1))), (3, .int (nI j9)), (2, .int (nI (n + 1))), (0, .ref d), (1, .int (nI 2)), (5, .int (zb b)), (6, .int (nI o))]) hx hb dX6_overWall_120 hl (k := 4) rfl (nI_inc _) (by decide) rfl (fun ls hl => ?_)
                  refine lv_goto (tgt := 12) hx hb dX6_overWall_123 (by decide) ?_
                  exact ih  (c + 1) (n + 1) (some j9) (by omega) (by omega) (by unfold zcnt; rw [← hN]; simp [← prc_isSome, h8]; try omega) (grt_gt h8 ho h10) _ _ hH hS _ (lv_sub hl [3, 4, 2, 1, 0] rfl)
            · refine lv_iload hx hb dX6_overWall_32 (lv_at hl 5 rfl) ?_
              refine b_if_eq (tgt := 58) hx hb dX6_overWall_34 (by decide) (fun h13 => ?_) (fun h13 => ?_)
              · refine n_iconst hx hb 0 dX6_overWall_58 (by decide) ?_
                refine lv_istore (lv' := [(5, .int (nI 0)), (0, .ref d), (1, .int (nI 2)), (2, .int (nI n)), (3, .int (oI mo)), (4, .int (nI c)), (6, .int (nI o))]) hx hb dX6_overWall_59 hl (by decide) rfl (fun ls hl => ?_)
                refine lv_iinc (v := (nI (o + 1))) (lv' := [(6, .int (nI (o + 1))), (5, .int (nI 0)), (0, .ref d), (1, .int (nI 2)), (2, .int (nI n)), (3, .int (oI mo)), (4, .int (nI c))]) hx hb dX6_overWall_61 hl (k := 6) rfl (nI_inc _) (by decide) rfl (fun ls hl => ?_)
                refine lv_goto (tgt := 25) hx hb dX6_overWall_64 (by decide) ?_
                exact ih25  false (o + 1) (by omega) (by omega) (by show false = (nwB v c o && _); rw [← hbq, h13]; rfl) _ _ hH hS _ (lv_sub hl [2, 3, 4, 5, 6, 1, 0] rfl)
              · refine lv_aload_n hx hb dX6_overWall_37 rfl (lv_at hl 0 rfl) ?_
                refine z_get (T := TX6) (v := .ref (d + 8)) hE hH hM2.1 rfl uw_X6 10 (by decide) fkX6_32 rfl dX6_overWall_38 ?_
                refine lv_iload hx hb dX6_overWall_41 (lv_at hl 6 rfl) ?_
                refine z_iald hE hH (show zArr G 0 M1 (d + 8) 60 (fun k => oI (prc v (-6) k)) from hM2.2 8 (by decide) (by decide)) (k := o) (by omega) (by decide) dX6_overWall_43 ?_
                refine lv_aload_n hx hb dX6_overWall_44 rfl (lv_at hl 0 rfl) ?_
                refine z_get (T := TX6) (v := .ref (d + 8)) hE hH hM2.1 rfl uw_X6 10 (by decide) fkX6_32 rfl dX6_overWall_45 ?_
                refine lv_iload hx hb dX6_overWall_48 (lv_at hl 4 rfl) ?_
                refine z_iald hE hH (show zArr G 0 M1 (d + 8) 60 (fun k => oI (prc v (-6) k)) from hM2.2 8 (by decide) (by decide)) (k := c) (by omega) (by decide) dX6_overWall_50 ?_
                refine oo_cmp_eq (tgt := 58) hx hb (prc_ob31 hv) (prc_ob31 hv) dX6_overWall_51 (by decide) (fun h14 => ?_) (fun h14 => ?_)
                · refine n_iconst hx hb 0 dX6_overWall_58 (by decide) ?_
                  refine lv_istore (lv' := [(5, .int (nI 0)), (0, .ref d), (1, .int (nI 2)), (2, .int (nI n)), (3, .int (oI mo)), (4, .int (nI c)), (6, .int (nI o))]) hx hb dX6_overWall_59 hl (by decide) rfl (fun ls hl => ?_)
                  refine lv_iinc (v := (nI (o + 1))) (lv' := [(6, .int (nI (o + 1))), (5, .int (nI 0)), (0, .ref d), (1, .int (nI 2)), (2, .int (nI n)), (3, .int (oI mo)), (4, .int (nI c))]) hx hb dX6_overWall_61 hl (k := 6) rfl (nI_inc _) (by decide) rfl (fun ls hl => ?_)
                  refine lv_goto (tgt := 25) hx hb dX6_overWall_64 (by decide) ?_
                  exact ih25  false (o + 1) (by omega) (by omega) (by show false = (nwB v c o && decide _); rw [← hbq, h13, decide_eq_false (fun q => q h14)]; rfl) _ _ hH hS _ (lv_sub hl [2, 3, 4, 5, 6, 1, 0] rfl)
                · refine n_iconst hx hb 1 dX6_overWall_54 (by decide) ?_
                  refine lv_goto (tgt := 59) hx hb dX6_overWall_55 (by decide) ?_
                  refine lv_istore (lv' := [(5, .int (nI 1)), (0, .ref d), (1, .int (nI 2)), (2, .int (nI n)), (3, .int (oI mo)), (4, .int (nI c)), (6, .int (nI o))]) hx hb dX6_overWall_59 hl (by decide) rfl (fun ls hl => ?_)
                  refine lv_iinc (v := (nI (o + 1))) (lv' := [(6, .int (nI (o + 1))), (5, .int (nI 1)), (0, .ref d), (1, .int (nI 2)), (2, .int (nI n)), (3, .int (oI mo)), (4, .int (nI c))]) hx hb dX6_overWall_61 hl (k := 6) rfl (nI_inc _) (by decide) rfl (fun ls hl => ?_)
                  refine lv_goto (tgt := 25) hx hb dX6_overWall_64 (by decide) ?_
                  exact ih25  true (o + 1) (by omega) (by omega) (by show true = (nwB v c o && decide _); rw [← hbq, h13, decide_eq_true h14]; rfl) _ _ hH hS _ (lv_sub hl [2, 3, 4, 5, 6, 1, 0] rfl)
        exact L25 (c + 1) true 0 (by omega) (by omega) rfl _ _ hH hS _ (lv_sub hl [2, 3, 4, 5, 6, 1, 0] rfl)
  exact L12 61 0 0 none (by omega) (by omega) rfl rfl _ _ hH hS _ (lv_sub hl [3, 4, 2, 1, 0] rfl)

set_option maxHeartbeats 4000000 in
set_option maxRecDepth 100000 in
theorem c_X6_overWall_3 (l : Launch) (G : zG) (B0 : Nat) (M : Mm) (d : Nat) (sc : Nat → Int32) (v : Wv) (A U L K PD SE SH BU : Nat → Int32) (hM : Md G d sc (xs v A U L K PD SE SH BU) M) (hv : wOk v) (hBd : B0 ≤ d) : zMet l yX6_overWall cX6_overWall 7 (some .int) 5 0 0 G B0 M [.ref d, .int (nI 3)] (some (.int (nI (fstCnt v)))) (fun M1 => Md G d sc (xs v A U L K PD SE (fun k => oI (prc v (-6) k)) BU) M1 ∧ ∀ q, (q < d ∨ d + 10 ≤ q) → M1 q = M q) := by
  refine z_met RX6 [(0, .ref d), (1, .int (nI 3))] (by decide) rfl (Nat.le_of_ble_eq_true rfl) rfl ?_
  intro pg ev s m below meth cd ls hE hin hB0 hH hl
  have hx := hE.1
  have hb := hE.2.1
  have hn : v 0 ≤ 12 := hv.1
  have hA : zArr G 0 M (d + 1) 818 (fun i => nI (v i)) := hM.s (fun _ _ => rfl)
  have hF : ∀ q, (q < d ∨ d + 10 ≤ q) → M q = M q := fun _ _ => rfl
  refine z_gen B0 (fun H locs hH hS => ?_) hH
  refine lv_aload_n hx hb dX6_overWall_0 rfl (lv_at hl 0 rfl) ?_
  refine z_callV (rest := []) (st2 := []) hE hH hS hB0 hl ca_X6_laysShown mkX6_117 (c_X6_laysShown l G B0 M d sc v A U L K PD SE SH BU hM hv (by omega) ) hM.1 rfl rfl rfl rfl rfl ⟨Nat.le_of_ble_eq_true rfl, Nat.le_of_ble_eq_true rfl⟩ (Nat.le_of_ble_eq_true rfl) ⟨Nat.le_refl _, Nat.le_refl _⟩ dX6_overWall_1 (fun H locs M1 hH hp hS => ?_)
  obtain ⟨hM2, hG3⟩ := hp
  have hA5 := hM2.s (fun _ _ => rfl)
  have hF4 := fun q hq => (hG3 q hq).trans (hF q hq)
  refine n_iconst hx hb 0 dX6_overWall_4 (by decide) ?_
  refine lv_istore_n (lv' := [(2, .int (nI 0)), (0, .ref d), (1, .int (nI 3))]) hx hb dX6_overWall_5 rfl hl (by decide) rfl (fun ls hl => ?_)
  refine lv_bipush (v := (-6)) hx hb dX6_overWall_6 (by decide) ?_
  refine lv_istore_n (lv' := [(3, .int (-6)), (2, .int (nI 0)), (0, .ref d), (1, .int (nI 3))]) hx hb dX6_overWall_8 rfl hl (by decide) rfl (fun ls hl => ?_)
  refine n_iconst hx hb 0 dX6_overWall_9 (by decide) ?_
  refine lv_istore (lv' := [(4, .int (nI 0)), (3, .int (-6)), (2, .int (nI 0)), (0, .ref d), (1, .int (nI 3))]) hx hb dX6_overWall_10 hl (by decide) rfl (fun ls hl => ?_)
  have L12 : ∀ (dd : Nat) (c : Nat) (n : Nat) (mo : Option Nat), 60 < c + dd → (c ≤ 60) → (n = zcnt (fun c => (prc v (-6) c).isSome && nwB v c c) c) → (mo = grtTo v c) → ∀ (H : Heap) (locs : List Loc), zH G M1 H → zS 0 B0 s.heap H locs → ∀ (ls : Array Slot), lv_has ls 7 [(0, .ref d), (1, .int (nI 3)), (2, .int (nI n)), (3, .int (oI mo)), (4, .int (nI c))] → zW pg l ev 5 0 0 s m [.ref d, .int (nI 3)] below meth cd H locs 0 0 G B0 (some (.int (nI (fstCnt v)))) (fun M1 => Md G d sc (xs v A U L K PD SE (fun k => oI (prc v (-6) k)) BU) M1 ∧ ∀ q, (q < d ∨ d + 10 ≤ q) → M1 q = M q) (F0 m 12 ls []) := by
    intro dd
    induction dd with
    | zero =>
      intro c n mo hdd hc hN ho
      exact absurd hdd (by omega)
    | succ dd ih =>
      intro c n mo hdd hc hN ho H locs hH hS ls hl
      refine lv_iload hx hb dX6_overWall_12 (lv_at hl 4 rfl) ?_
      refine n_bipush hx hb 60 dX6_overWall_14 (by decide) ?_
      refine n_cmp_ge (tgt := 126) hx hb (by omega) (by decide) dX6_overWall_16 (by decide) (fun h6 => ?_) (fun h6 => ?_)
      · refine lv_iload_n hx hb dX6_overWall_126 rfl (lv_at hl 1 rfl) ?_
        refine n_iconst hx hb 4 dX6_overWall_127 (by decide) ?_
        refine n_cmp_ne (tgt := 135) hx hb (by decide) (by decide) dX6_overWall_128 (by decide) (fun _ => ?_) (fun h => absurd h (by decide))
        refine lv_iload_n hx hb dX6_overWall_135 rfl (lv_at hl 2 rfl) ?_
        exact z_iret hE hH hS (by have hkk : c = 60 := (by omega); subst hkk; rw [hN]; first | done | rfl) ⟨hM2, hF4⟩ dX6_overWall_136
      · refine n_iconst hx hb 1 dX6_overWall_19 (by decide) ?_
        refine lv_istore (lv' := [(5, .int (nI 1)), (0, .ref d), (1, .int (nI 3)), (2, .int (nI n)), (3, .int (oI mo)), (4, .int (nI c))]) hx hb dX6_overWall_20 hl (by decide) rfl (fun ls hl => ?_)
        refine n_iconst hx hb 0 dX6_overWall_22 (by decide) ?_
        refine lv_istore (lv' := [(6, .int (nI 0)), (5, .int (nI 1)), (0, .ref d), (1, .int (nI 3)), (2, .int (nI n)), (3, .int (oI mo)), (4, .int (nI c))]) hx hb dX6_overWall_23 hl (by decide) rfl (fun ls hl => ?_)
        have L25 : ∀ (dd25 : Nat) (b : Bool) (o : Nat), c < o + dd25 → (o ≤ c) → (b = nwB v c o) → ∀ (H : Heap) (locs : List Loc), zH G M1 H → zS 0 B0 s.heap H locs → ∀ (ls : Array Slot), lv_has ls 7 [(0, .ref d), (1, .int (nI 3)), (2, .int (nI n)), (3, .int (oI mo)), (4, .int (nI c)), (5, .int (zb b)), (6, .int (nI o))] → zW pg l ev 5 0 0 s m [.ref d, .int (nI 3)] below meth cd H locs 0 0 G B0 (some (.int (nI (fstCnt v)))) (fun M1 => Md G d sc (xs v A U L K PD SE (fun k => oI (prc v (-6) k)) BU) M1 ∧ ∀ q, (q < d ∨ d + 10 ≤ q) → M1 q = M q) (F0 m 25 ls []) := by
          intro dd25
          induction dd25 with
          | zero =>
            intro b o hdd25 hoc hbq
            exact absurd hdd25 (by omega)
          | succ dd25 ih25 =>
            intro b o hdd25 hoc hbq H locs hH hS ls hl
            refine lv_iload hx hb dX6_overWall_25 (lv_at hl 6 rfl) ?_
            refine lv_iload hx hb dX6_overWall_27 (lv_at hl 4 rfl) ?_
            refine n_cmp_ge (tgt := 67) hx hb (by omega) (by omega) dX6_overWall_29 (by decide) (fun h7 => ?_) (fun h7 => ?_)
            · have hoc2 : o = c := by omega
              rw [hoc2] at hbq
              refine lv_iload_n hx hb dX6_overWall_67 rfl (lv_at hl 2 rfl) ?_
              refine lv_aload_n hx hb dX6_overWall_68 rfl (lv_at hl 0 rfl) ?_
              refine z_get (T := TX6) (v := .ref (d + 8)) hE hH hM2.1 rfl uw_X6 10 (by decide) fkX6_32 rfl dX6_overWall_69 ?_
              refine lv_iload hx hb dX6_overWall_72 (lv_at hl 4 rfl) ?_
              refine z_iald hE hH (show zArr G 0 M1 (d + 8) 60 (fun k => oI (prc v (-6) k)) from hM2.2 8 (by decide) (by decide)) (k := c) (by omega) (by decide) dX6_overWall_74 ?_
              refine lv_bipush (v := (-6)) hx hb dX6_overWall_75 (by decide) ?_
              refine o_cmp_eq (tgt := 94) hx hb (prc_ob31 hv) dX6_overWall_77 (by decide) (fun h8 => ?_) (fun j9 h8 => ?_)
              · refine n_iconst hx hb 0 dX6_overWall_94 (by decide) ?_
                refine n_iadd hx hb dX6_overWall_95 ?_
                refine lv_istore_n (lv' := [(2, .int (nI (n + 0))), (0, .ref d), (1, .int (nI 3)), (3, .int (oI mo)), (4, .int (nI c)), (5, .int (zb b)), (6, .int (nI o))]) hx hb dX6_overWall_96 rfl hl (by decide) rfl (fun ls hl => ?_)
                refine lv_aload_n hx hb dX6_overWall_97 rfl (lv_at hl 1 rfl) ?_
                refine z_get (T := TX6) (v := .ref (d + 8)) hE hH hM2.1 rfl uw_X6 10 (by decide) fkX6_32 rfl dX6_overWall_98 ?_
                refine lv_iload hx hb dX6_overWall_101 (lv_at hl 4 rfl) ?_
                refine z_iald hE hH (show zArr G 0 M1 (d + 8) 60 (fun k => oI (prc v (-6) k)) from hM2.2 8 (by decide) (by decide)) (k := c) (by omega) (by decide) dX6_overWall_103 ?_
                refine z_topeq (show oI (prc v (-6) c) = (-6) from by rw [h8]; rfl) ?_
                refine lv_iload_n hx hb dX6_overWall_104 rfl (lv_at hl 3 rfl) ?_
                refine mo_cmp_le (tgt := 118) hx hb (by rw [ho]; exact grt_ob hv c) dX6_overWall_105 (by decide) ?_
                refine lv_iload_n hx hb dX6_overWall_118 rfl (lv_at hl 3 rfl) ?_
                refine lv_istore_n (lv' := [(3, .int (oI mo)), (2, .int (nI (n + 0))), (0, .ref d), (1, .int (nI 3)), (4, .int (nI c)), (5, .int (zb b)), (6, .int (nI o))]) hx hb dX6_overWall_119 rfl hl (by decide) rfl (fun ls hl => ?_)
                refine lv_iinc (v := (nI (c + 1))) (lv' := [(4, .int (nI (c + 1))), (3, .int (oI mo)), (2, .int (nI (n + 0))), (0, .ref d), (1, .int (nI 3)), (5, .int (zb b)), (6, .int (nI o))]) hx hb dX6_overWall_120 hl (k := 4) rfl (nI_inc _) (by decide) rfl (fun ls hl => ?_)
                refine lv_goto (tgt := 12) hx hb dX6_overWall_123 (by decide) ?_
                exact ih  (c + 1) (n + 0) mo (by omega) (by omega) (by unfold zcnt; rw [← hN]; simp [h8]; try omega) (grt_none h8 ho) _ _ hH hS _ (lv_sub hl [3, 4, 2, 1, 0] rfl)
              · replace hl : lv_has ls 7 [(0, .ref d), (1, .int (nI 3)), (2, .int (nI n)), (3, .int (oI mo)), (4, .int (nI c)), (5, .int (zb b)), (6, .int (nI o))] := hl
                have j9_b := prc_ob hv _ h8
                refine lv_iload_n hx hb dX6_overWall_80 rfl (lv_at hl 1 rfl) ?_
                refine n_iconst hx hb 2 dX6_overWall_81 (by decide) ?_
                refine n_cmp_eq (tgt := 90) hx hb (by decide) (by decide) dX6_overWall_82 (by decide) (fun h => absurd h (by decide)) (fun _ => ?_)
                refine lv_iload hx hb dX6_overWall_85 (lv_at hl 5 rfl) ?_
                refine b_if_eq (tgt := 94) hx hb dX6_overWall_87 (by decide) (fun h11 => ?_) (fun h11 => ?_)
                · refine n_iconst hx hb 0 dX6_overWall_94 (by decide) ?_
                  refine n_iadd hx hb dX6_overWall_95 ?_
                  refine lv_istore_n (lv' := [(2, .int (nI (n + 0))), (0, .ref d), (1, .int (nI 3)), (3, .int (oI mo)), (4, .int (nI c)), (5, .int (zb b)), (6, .int (nI o))]) hx hb dX6_overWall_96 rfl hl (by decide) rfl (fun ls hl => ?_)
                  refine lv_aload_n hx hb dX6_overWall_97 rfl (lv_at hl 1 rfl) ?_
                  refine z_get (T := TX6) (v := .ref (d + 8)) hE hH hM2.1 rfl uw_X6 10 (by decide) fkX6_32 rfl dX6_overWall_98 ?_
                  refine lv_iload hx hb dX6_overWall_101 (lv_at hl 4 rfl) ?_
                  refine z_iald hE hH (show zArr G 0 M1 (d + 8) 60 (fun k => oI (prc v (-6) k)) from hM2.2 8 (by decide) (by decide)) (k := c) (by omega) (by decide) dX6_overWall_103 ?_
                  refine z_topeq (show oI (prc v (-6) c) = nI j9 from by rw [h8]; rfl) ?_
                  refine lv_iload_n hx hb dX6_overWall_104 rfl (lv_at hl 3 rfl) ?_
                  refine no_cmp_le (tgt := 118) hx hb (by omega) (fun j h => by rw [ho] at h; exact grt_ob hv c j h) dX6_overWall_105 (by decide) (fun j13 h12e h12 => ?_) (fun h12 => ?_)
                  · refine lv_iload_n hx hb dX6_overWall_118 rfl (lv_at hl 3 rfl) ?_
                    refine lv_istore_n (lv' := [(3, .int (oI mo)), (2, .int (nI (n + 0))), (0, .ref d), (1, .int (nI 3)), (4, .int (nI c)), (5, .int (zb b)), (6, .int (nI o))]) hx hb dX6_overWall_119 rfl hl (by decide) rfl (fun ls hl => ?_)
                    refine lv_iinc (v := (nI (c + 1))) (lv' := [(4, .int (nI (c + 1))), (3, .int (oI mo)), (2, .int (nI (n + 0))), (0, .ref d), (1, .int (nI 3)), (5, .int (zb b)), (6, .int (nI o))]) hx hb dX6_overWall_120 hl (k := 4) rfl (nI_inc _) (by decide) rfl (fun ls hl => ?_)
                    refine lv_goto (tgt := 12) hx hb dX6_overWall_123 (by decide) ?_
                    exact ih  (c + 1) (n + 0) mo (by omega) (by omega) (by unfold zcnt; rw [← hN]; simp [h8, ← hbq, h11]; try omega) (grt_le h8 ho h12e h12) _ _ hH hS _ (lv_sub hl [3, 4, 2, 1, 0] rfl)
                  · refine lv_aload_n hx hb dX6_overWall_108 rfl (lv_at hl 1 rfl) ?_
                    refine z_get (T := TX6) (v := .ref (d + 8)) hE hH hM2.1 rfl uw_X6 10 (by decide) fkX6_32 rfl dX6_overWall_109 ?_
                    refine lv_iload hx hb dX6_overWall_112 (lv_at hl 4 rfl) ?_
                    refine z_iald hE hH (show zArr G 0 M1 (d + 8) 60 (fun k => oI (prc v (-6) k)) from hM2.2 8 (by decide) (by decide)) (k := c) (by omega) (by decide) dX6_overWall_114 ?_
                    refine z_topeq (show oI (prc v (-6) c) = nI j9 from by rw [h8]; rfl) ?_
                    refine lv_goto (tgt := 119) hx hb dX6_overWall_115 (by decide) ?_
                    refine lv_istore_n (lv' := [(3, .int (nI j9)), (2, .int (nI (n + 0))), (0, .ref d), (1, .int (nI 3)), (4, .int (nI c)), (5, .int (zb b)), (6, .int (nI o))]) hx hb dX6_overWall_119 rfl hl (by decide) rfl (fun ls hl => ?_)
                    refine lv_iinc (v := (nI (c + 1))) (lv' := [(4, .int (nI (c + 1))), (3, .int (nI j9)), (2, .int (nI (n + 0))), (0, .ref d), (1, .int (nI 3)), (5, .int (zb b)), (6, .int (nI o))]) hx hb dX6_overWall_120 hl (k := 4) rfl (nI_inc _) (by decide) rfl (fun ls hl => ?_)
                    refine lv_goto (tgt := 12) hx hb dX6_overWall_123 (by decide) ?_
                    exact ih  (c + 1) (n + 0) (some j9) (by omega) (by omega) (by unfold zcnt; rw [← hN]; simp [h8, ← hbq, h11]; try omega) (grt_gt h8 ho h12) _ _ hH hS _ (lv_sub hl [3, 4, 2, 1, 0] rfl)
                · refine n_iconst hx hb 1 dX6_overWall_90 (by decide) ?_
                  refine lv_goto (tgt := 95) hx hb dX6_overWall_91 (by decide) ?_
                  refine n_iadd hx hb dX6_overWall_95 ?_
                  refine lv_istore_n (lv' := [(2, .int (nI (n + 1))), (0, .ref d), (1, .int (nI 3)), (3, .int (oI mo)), (4, .int (nI c)), (5, .int (zb b)), (6, .int (nI o))]) hx hb dX6_overWall_96 rfl hl (by decide) rfl (fun ls hl => ?_)
                  refine lv_aload_n hx hb dX6_overWall_97 rfl (lv_at hl 1 rfl) ?_
                  refine z_get (T := TX6) (v := .ref (d + 8)) hE hH hM2.1 rfl uw_X6 10 (by decide) fkX6_32 rfl dX6_overWall_98 ?_
                  refine lv_iload hx hb dX6_overWall_101 (lv_at hl 4 rfl) ?_
                  refine z_iald hE hH (show zArr G 0 M1 (d + 8) 60 (fun k => oI (prc v (-6) k)) from hM2.2 8 (by decide) (by decide)) (k := c) (by omega) (by decide) dX6_overWall_103 ?_
                  refine z_topeq (show oI (prc v (-6) c) = nI j9 from by rw [h8]; rfl) ?_
                  refine lv_iload_n hx hb dX6_overWall_104 rfl (lv_at hl 3 rfl) ?_
                  refine no_cmp_le (tgt := 118) hx hb (by omega) (fun j h => by rw [ho] at h; exact grt_ob hv c j h) dX6_overWall_105 (by decide) (fun j15 h14e h14 => ?_) (fun h14 => ?_)
                  · refine lv_iload_n hx hb dX6_overWall_118 rfl (lv_at hl 3 rfl) ?_
                    refine lv_istore_n (lv' := [(3, .int (oI mo)), (2, .int (nI (n + 1))), (0, .ref d), (1, .int (nI 3)), (4, .int (nI c)), (5, .int (zb b)), (6, .int (nI o))]) hx hb dX6_overWall_119 rfl hl (by decide) rfl (fun ls hl => ?_)
                    refine lv_iinc (v := (nI (c + 1))) (lv' := [(4, .int (nI (c + 1))), (3, .int (oI mo)), (2, .int (nI (n + 1))), (0, .ref d), (1, .int (nI 3)), (5, .int (zb b)), (6, .int (nI o))]) hx hb dX6_overWall_120 hl (k := 4) rfl (nI_inc _) (by decide) rfl (fun ls hl => ?_)
                    refine lv_goto (tgt := 12) hx hb dX6_overWall_123 (by decide) ?_
                    exact ih  (c + 1) (n + 1) mo (by omega) (by omega) (by unfold zcnt; rw [← hN]; simp [h8, ← hbq, h11]; try omega) (grt_le h8 ho h14e h14) _ _ hH hS _ (lv_sub hl [3, 4, 2, 1, 0] rfl)
                  · refine lv_aload_n hx hb dX6_overWall_108 rfl (lv_at hl 1 rfl) ?_
                    refine z_get (T := TX6) (v := .ref (d + 8)) hE hH hM2.1 rfl uw_X6 10 (by decide) fkX6_32 rfl dX6_overWall_109 ?_
                    refine lv_iload hx hb dX6_overWall_112 (lv_at hl 4 rfl) ?_
                    refine z_iald hE hH (show zArr G 0 M1 (d + 8) 60 (fun k => oI (prc v (-6) k)) from hM2.2 8 (by decide) (by decide)) (k := c) (by omega) (by decide) dX6_overWall_114 ?_
                    refine z_topeq (show oI (prc v (-6) c) = nI j9 from by rw [h8]; rfl) ?_
                    refine lv_goto (tgt := 119) hx hb dX6_overWall_115 (by decide) ?_
                    refine lv_istore_n (lv' := [(3, .int (nI j9)), (2, .int (nI (n + 1))), (0, .ref d), (1, .int (nI 3)), (4, .int (nI c)), (5, .int (zb b)), (6, .int (nI o))]) hx hb dX6_overWall_119 rfl hl (by decide) rfl (fun ls hl => ?_)
                    refine lv_iinc (v := (nI (c + 1))) (lv' := [(4, .int (nI (c + 1))), (3, .int (nI j9)), (2, .int (nI (n + 1))), (0, .ref d), (1, .int (nI 3)), (5, .int (zb b)), (6, .int (nI o))]) hx hb dX6_overWall_120 hl (k := 4) rfl (nI_inc _) (by decide) rfl (fun ls hl => ?_)
                    refine lv_goto (tgt := 12) hx hb dX6_overWall_123 (by decide) ?_
                    exact ih  (c + 1) (n + 1) (some j9) (by omega) (by omega) (by unfold zcnt; rw [← hN]; simp [h8, ← hbq, h11]; try omega) (grt_gt h8 ho h14) _ _ hH hS _ (lv_sub hl [3, 4, 2, 1, 0] rfl)
            · refine lv_iload hx hb dX6_overWall_32 (lv_at hl 5 rfl) ?_
              refine b_if_eq (tgt := 58) hx hb dX6_overWall_34 (by decide) (fun h17 => ?_) (fun h17 => ?_)
              · refine n_iconst hx hb 0 dX6_overWall_58 (by decide) ?_
                refine lv_istore (lv' := [(5, .int (nI 0)), (0, .ref d), (1, .int (nI 3)), (2, .int (nI n)), (3, .int (oI mo)), (4, .int (nI c)), (6, .int (nI o))]) hx hb dX6_overWall_59 hl (by decide) rfl (fun ls hl => ?_)
                refine lv_iinc (v := (nI (o + 1))) (lv' := [(6, .int (nI (o + 1))), (5, .int (nI 0)), (0, .ref d), (1, .int (nI 3)), (2, .int (nI n)), (3, .int (oI mo)), (4, .int (nI c))]) hx hb dX6_overWall_61 hl (k := 6) rfl (nI_inc _) (by decide) rfl (fun ls hl => ?_)
                refine lv_goto (tgt := 25) hx hb dX6_overWall_64 (by decide) ?_
                exact ih25  false (o + 1) (by omega) (by omega) (by show false = (nwB v c o && _); rw [← hbq, h17]; rfl) _ _ hH hS _ (lv_sub hl [2, 3, 4, 5, 6, 1, 0] rfl)
              · refine lv_aload_n hx hb dX6_overWall_37 rfl (lv_at hl 0 rfl) ?_
                refine z_get (T := TX6) (v := .ref (d + 8)) hE hH hM2.1 rfl uw_X6 10 (by decide) fkX6_32 rfl dX6_overWall_38 ?_
                refine lv_iload hx hb dX6_overWall_41 (lv_at hl 6 rfl) ?_
                refine z_iald hE hH (show zArr G 0 M1 (d + 8) 60 (fun k => oI (prc v (-6) k)) from hM2.2 8 (by decide) (by decide)) (k := o) (by omega) (by decide) dX6_overWall_43 ?_
                refine lv_aload_n hx hb dX6_overWall_44 rfl (lv_at hl 0 rfl) ?_
                refine z_get (T := TX6) (v := .ref (d + 8)) hE hH hM2.1 rfl uw_X6 10 (by decide) fkX6_32 rfl dX6_overWall_45 ?_
                refine lv_iload hx hb dX6_overWall_48 (lv_at hl 4 rfl) ?_
                refine z_iald hE hH (show zArr G 0 M1 (d + 8) 60 (fun k => oI (prc v (-6) k)) from hM2.2 8 (by decide) (by decide)) (k := c) (by omega) (by decide) dX6_overWall_50 ?_
                refine oo_cmp_eq (tgt := 58) hx hb (prc_ob31 hv) (prc_ob31 hv) dX6_overWall_51 (by decide) (fun h18 => ?_) (fun h18 => ?_)
                · refine n_iconst hx hb 0 dX6_overWall_58 (by decide) ?_
                  refine lv_istore (lv' := [(5, .int (nI 0)), (0, .ref d), (1, .int (nI 3)), (2, .int (nI n)), (3, .int (oI mo)), (4, .int (nI c)), (6, .int (nI o))]) hx hb dX6_overWall_59 hl (by decide) rfl (fun ls hl => ?_)
                  refine lv_iinc (v := (nI (o + 1))) (lv' := [(6, .int (nI (o + 1))), (5, .int (nI 0)), (0, .ref d), (1, .int (nI 3)), (2, .int (nI n)), (3, .int (oI mo)), (4, .int (nI c))]) hx hb dX6_overWall_61 hl (k := 6) rfl (nI_inc _) (by decide) rfl (fun ls hl => ?_)
                  refine lv_goto (tgt := 25) hx hb dX6_overWall_64 (by decide) ?_
                  exact ih25  false (o + 1) (by omega) (by omega) (by show false = (nwB v c o && decide _); rw [← hbq, h17, decide_eq_false (fun q => q h18)]; rfl) _ _ hH hS _ (lv_sub hl [2, 3, 4, 5, 6, 1, 0] rfl)
                · refine n_iconst hx hb 1 dX6_overWall_54 (by decide) ?_
                  refine lv_goto (tgt := 59) hx hb dX6_overWall_55 (by decide) ?_
                  refine lv_istore (lv' := [(5, .int (nI 1)), (0, .ref d), (1, .int (nI 3)), (2, .int (nI n)), (3, .int (oI mo)), (4, .int (nI c)), (6, .int (nI o))]) hx hb dX6_overWall_59 hl (by decide) rfl (fun ls hl => ?_)
                  refine lv_iinc (v := (nI (o + 1))) (lv' := [(6, .int (nI (o + 1))), (5, .int (nI 1)), (0, .ref d), (1, .int (nI 3)), (2, .int (nI n)), (3, .int (oI mo)), (4, .int (nI c))]) hx hb dX6_overWall_61 hl (k := 6) rfl (nI_inc _) (by decide) rfl (fun ls hl => ?_)
                  refine lv_goto (tgt := 25) hx hb dX6_overWall_64 (by decide) ?_
                  exact ih25  true (o + 1) (by omega) (by omega) (by show true = (nwB v c o && decide _); rw [← hbq, h17, decide_eq_true h18]; rfl) _ _ hH hS _ (lv_sub hl [2, 3, 4, 5, 6, 1, 0] rfl)
        exact L25 (c + 1) true 0 (by omega) (by omega) rfl _ _ hH hS _ (lv_sub hl [2, 3, 4, 5, 6, 1, 0] rfl)
  exact L12 61 0 0 none (by omega) (by omega) rfl rfl _ _ hH hS _ (lv_sub hl [3, 4, 2, 1, 0] rfl)

set_option maxHeartbeats 4000000 in
set_option maxRecDepth 100000 in
theorem c_X6_overWall_4 (l : Launch) (G : zG) (B0 : Nat) (M : Mm) (d : Nat) (sc : Nat → Int32) (v : Wv) (A U L K PD SE SH BU : Nat → Int32) (hM : Md G d sc (xs v A U L K PD SE SH BU) M) (hv : wOk v) (hBd : B0 ≤ d) : zMet l yX6_overWall cX6_overWall 7 (some .int) 5 0 0 G B0 M [.ref d, .int (nI 4)] (some (.int (oI (grtTo v 60)))) (fun M1 => Md G d sc (xs v A U L K PD SE (fun k => oI (prc v (-6) k)) BU) M1 ∧ ∀ q, (q < d ∨ d + 10 ≤ q) → M1 q = M q) := by
  refine z_met RX6 [(0, .ref d), (1, .int (nI 4))] (by decide) rfl (Nat.le_of_ble_eq_true rfl) rfl ?_
  intro pg ev s m below meth cd ls hE hin hB0 hH hl
  have hx := hE.1
  have hb := hE.2.1
  have hn : v 0 ≤ 12 := hv.1
  have hA : zArr G 0 M (d + 1) 818 (fun i => nI (v i)) := hM.s (fun _ _ => rfl)
  have hF : ∀ q, (q < d ∨ d + 10 ≤ q) → M q = M q := fun _ _ => rfl
  refine z_gen B0 (fun H locs hH hS => ?_) hH
  refine lv_aload_n hx hb dX6_overWall_0 rfl (lv_at hl 0 rfl) ?_
  refine z_callV (rest := []) (st2 := []) hE hH hS hB0 hl ca_X6_laysShown mkX6_117 (c_X6_laysShown l G B0 M d sc v A U L K PD SE SH BU hM hv (by omega) ) hM.1 rfl rfl rfl rfl rfl ⟨Nat.le_of_ble_eq_true rfl, Nat.le_of_ble_eq_true rfl⟩ (Nat.le_of_ble_eq_true rfl) ⟨Nat.le_refl _, Nat.le_refl _⟩ dX6_overWall_1 (fun H locs M1 hH hp hS => ?_)
  obtain ⟨hM2, hG3⟩ := hp
  have hA5 := hM2.s (fun _ _ => rfl)
  have hF4 := fun q hq => (hG3 q hq).trans (hF q hq)
  refine n_iconst hx hb 0 dX6_overWall_4 (by decide) ?_
  refine lv_istore_n (lv' := [(2, .int (nI 0)), (0, .ref d), (1, .int (nI 4))]) hx hb dX6_overWall_5 rfl hl (by decide) rfl (fun ls hl => ?_)
  refine lv_bipush (v := (-6)) hx hb dX6_overWall_6 (by decide) ?_
  refine lv_istore_n (lv' := [(3, .int (-6)), (2, .int (nI 0)), (0, .ref d), (1, .int (nI 4))]) hx hb dX6_overWall_8 rfl hl (by decide) rfl (fun ls hl => ?_)
  refine n_iconst hx hb 0 dX6_overWall_9 (by decide) ?_
  refine lv_istore (lv' := [(4, .int (nI 0)), (3, .int (-6)), (2, .int (nI 0)), (0, .ref d), (1, .int (nI 4))]) hx hb dX6_overWall_10 hl (by decide) rfl (fun ls hl => ?_)
  have L12 : ∀ (dd : Nat) (c : Nat) (n : Nat) (mo : Option Nat), 60 < c + dd → (c ≤ 60) → (n = zcnt (fun c => (prc v (-6) c).isSome && nwB v c c) c) → (mo = grtTo v c) → ∀ (H : Heap) (locs : List Loc), zH G M1 H → zS 0 B0 s.heap H locs → ∀ (ls : Array Slot), lv_has ls 7 [(0, .ref d), (1, .int (nI 4)), (2, .int (nI n)), (3, .int (oI mo)), (4, .int (nI c))] → zW pg l ev 5 0 0 s m [.ref d, .int (nI 4)] below meth cd H locs 0 0 G B0 (some (.int (oI (grtTo v 60)))) (fun M1 => Md G d sc (xs v A U L K PD SE (fun k => oI (prc v (-6) k)) BU) M1 ∧ ∀ q, (q < d ∨ d + 10 ≤ q) → M1 q = M q) (F0 m 12 ls []) := by
    intro dd
    induction dd with
    | zero =>
      intro c n mo hdd hc hN ho
      exact absurd hdd (by omega)
    | succ dd ih =>
      intro c n mo hdd hc hN ho H locs hH hS ls hl
      refine lv_iload hx hb dX6_overWall_12 (lv_at hl 4 rfl) ?_
      refine n_bipush hx hb 60 dX6_overWall_14 (by decide) ?_
      refine n_cmp_ge (tgt := 126) hx hb (by omega) (by decide) dX6_overWall_16 (by decide) (fun h6 => ?_) (fun h6 => ?_)
      · refine lv_iload_n hx hb dX6_overWall_126 rfl (lv_at hl 1 rfl) ?_
        refine n_iconst hx hb 4 dX6_overWall_127 (by decide) ?_
        refine n_cmp_ne (tgt := 135) hx hb (by decide) (by decide) dX6_overWall_128 (by decide) (fun h => absurd rfl h) (fun _ => ?_)
        refine lv_iload_n hx hb dX6_overWall_131 rfl (lv_at hl 3 rfl) ?_
        refine lv_goto (tgt := 136) hx hb dX6_overWall_132 (by decide) ?_
        exact z_iret hE hH hS (by have hkk : c = 60 := (by omega); subst hkk; rw [ho]) ⟨hM2, hF4⟩ dX6_overWall_136
      · refine n_iconst hx hb 1 dX6_overWall_19 (by decide) ?_
        refine lv_istore (lv' := [(5, .int (nI 1)), (0, .ref d), (1, .int (nI 4)), (2, .int (nI n)), (3, .int (oI mo)), (4, .int (nI c))]) hx hb dX6_overWall_20 hl (by decide) rfl (fun ls hl => ?_)
        refine n_iconst hx hb 0 dX6_overWall_22 (by decide) ?_
        refine lv_istore (lv' := [(6, .int (nI 0)), (5, .int (nI 1)), (0, .ref d), (1, .int (nI 4)), (2, .int (nI n)), (3, .int (oI mo)), (4, .int (nI c))]) hx hb dX6_overWall_23 hl (by decide) rfl (fun ls hl => ?_)
        have L25 : ∀ (dd25 : Nat) (b : Bool) (o : Nat), c < o + dd25 → (o ≤ c) → (b = nwB v c o) → ∀ (H : Heap) (locs : List Loc), zH G M1 H → zS 0 B0 s.heap H locs → ∀ (ls : Array Slot), lv_has ls 7 [(0, .ref d), (1, .int (nI 4)), (2, .int (nI n)), (3, .int (oI mo)), (4, .int (nI c)), (5, .int (zb b)), (6, .int (nI o))] → zW pg l ev 5 0 0 s m [.ref d, .int (nI 4)] below meth cd H locs 0 0 G B0 (some (.int (oI (grtTo v 60)))) (fun M1 => Md G d sc (xs v A U L K PD SE (fun k => oI (prc v (-6) k)) BU) M1 ∧ ∀ q, (q < d ∨ d + 10 ≤ q) → M1 q = M q) (F0 m 25 ls []) := by
          intro dd25
          induction dd25 with
          | zero =>
            intro b o hdd25 hoc hbq
            exact absurd hdd25 (by omega)
          | succ dd25 ih25 =>
            intro b o hdd25 hoc hbq H locs hH hS ls hl
            refine lv_iload hx hb dX6_overWall_25 (lv_at hl 6 rfl) ?_
            refine lv_iload hx hb dX6_overWall_27 (lv_at hl 4 rfl) ?_
            refine n_cmp_ge (tgt := 67) hx hb (by omega) (by omega) dX6_overWall_29 (by decide) (fun h7 => ?_) (fun h7 => ?_)
            · have hoc2 : o = c := by omega
              rw [hoc2] at hbq
              refine lv_iload_n hx hb dX6_overWall_67 rfl (lv_at hl 2 rfl) ?_
              refine lv_aload_n hx hb dX6_overWall_68 rfl (lv_at hl 0 rfl) ?_
              refine z_get (T := TX6) (v := .ref (d + 8)) hE hH hM2.1 rfl uw_X6 10 (by decide) fkX6_32 rfl dX6_overWall_69 ?_
              refine lv_iload hx hb dX6_overWall_72 (lv_at hl 4 rfl) ?_
              refine z_iald hE hH (show zArr G 0 M1 (d + 8) 60 (fun k => oI (prc v (-6) k)) from hM2.2 8 (by decide) (by decide)) (k := c) (by omega) (by decide) dX6_overWall_74 ?_
              refine lv_bipush (v := (-6)) hx hb dX6_overWall_75 (by decide) ?_
              refine o_cmp_eq (tgt := 94) hx hb (prc_ob31 hv) dX6_overWall_77 (by decide) (fun h8 => ?_) (fun j9 h8 => ?_)
              · refine n_iconst hx hb 0 dX6_overWall_94 (by decide) ?_
                refine n_iadd hx hb dX6_overWall_95 ?_
                refine lv_istore_n (lv' := [(2, .int (nI (n + 0))), (0, .ref d), (1, .int (nI 4)), (3, .int (oI mo)), (4, .int (nI c)), (5, .int (zb b)), (6, .int (nI o))]) hx hb dX6_overWall_96 rfl hl (by decide) rfl (fun ls hl => ?_)
                refine lv_aload_n hx hb dX6_overWall_97 rfl (lv_at hl 1 rfl) ?_
                refine z_get (T := TX6) (v := .ref (d + 8)) hE hH hM2.1 rfl uw_X6 10 (by decide) fkX6_32 rfl dX6_overWall_98 ?_
                refine lv_iload hx hb dX6_overWall_101 (lv_at hl 4 rfl) ?_
                refine z_iald hE hH (show zArr G 0 M1 (d + 8) 60 (fun k => oI (prc v (-6) k)) from hM2.2 8 (by decide) (by decide)) (k := c) (by omega) (by decide) dX6_overWall_103 ?_
                refine z_topeq (show oI (prc v (-6) c) = (-6) from by rw [h8]; rfl) ?_
                refine lv_iload_n hx hb dX6_overWall_104 rfl (lv_at hl 3 rfl) ?_
                refine mo_cmp_le (tgt := 118) hx hb (by rw [ho]; exact grt_ob hv c) dX6_overWall_105 (by decide) ?_
                refine lv_iload_n hx hb dX6_overWall_118 rfl (lv_at hl 3 rfl) ?_
                refine lv_istore_n (lv' := [(3, .int (oI mo)), (2, .int (nI (n + 0))), (0, .ref d), (1, .int (nI 4)), (4, .int (nI c)), (5, .int (zb b)), (6, .int (nI o))]) hx hb dX6_overWall_119 rfl hl (by decide) rfl (fun ls hl => ?_)
                refine lv_iinc (v := (nI (c + 1))) (lv' := [(4, .int (nI (c + 1))), (3, .int (oI mo)), (2, .int (nI (n + 0))), (0, .ref d), (1, .int (nI 4)), (5, .int (zb b)), (6, .int (nI o))]) hx hb dX6_overWall_120 hl (k := 4) rfl (nI_inc _) (by decide) rfl (fun ls hl => ?_)
                refine lv_goto (tgt := 12) hx hb dX6_overWall_123 (by decide) ?_
                exact ih  (c + 1) (n + 0) mo (by omega) (by omega) (by unfold zcnt; rw [← hN]; simp [h8]; try omega) (grt_none h8 ho) _ _ hH hS _ (lv_sub hl [3, 4, 2, 1, 0] rfl)
              · replace hl : lv_has ls 7 [(0, .ref d), (1, .int (nI 4)), (2, .int (nI n)), (3, .int (oI mo)), (4, .int (nI c)), (5, .int (zb b)), (6, .int (nI o))] := hl
                have j9_b := prc_ob hv _ h8
                refine lv_iload_n hx hb dX6_overWall_80 rfl (lv_at hl 1 rfl) ?_
                refine n_iconst hx hb 2 dX6_overWall_81 (by decide) ?_
                refine n_cmp_eq (tgt := 90) hx hb (by decide) (by decide) dX6_overWall_82 (by decide) (fun h => absurd h (by decide)) (fun _ => ?_)
                refine lv_iload hx hb dX6_overWall_85 (lv_at hl 5 rfl) ?_
                refine b_if_eq (tgt := 94) hx hb dX6_overWall_87 (by decide) (fun h11 => ?_) (fun h11 => ?_)
                · refine n_iconst hx hb 0 dX6_overWall_94 (by decide) ?_
                  refine n_iadd hx hb dX6_overWall_95 ?_
                  refine lv_istore_n (lv' := [(2, .int (nI (n + 0))), (0, .ref d), (1, .int (nI 4)), (3, .int (oI mo)), (4, .int (nI c)), (5, .int (zb b)), (6, .int (nI o))]) hx hb dX6_overWall_96 rfl hl (by decide) rfl (fun ls hl => ?_)
                  refine lv_aload_n hx hb dX6_overWall_97 rfl (lv_at hl 1 rfl) ?_
                  refine z_get (T := TX6) (v := .ref (d + 8)) hE hH hM2.1 rfl uw_X6 10 (by decide) fkX6_32 rfl dX6_overWall_98 ?_
                  refine lv_iload hx hb dX6_overWall_101 (lv_at hl 4 rfl) ?_
                  refine z_iald hE hH (show zArr G 0 M1 (d + 8) 60 (fun k => oI (prc v (-6) k)) from hM2.2 8 (by decide) (by decide)) (k := c) (by omega) (by decide) dX6_overWall_103 ?_
                  refine z_topeq (show oI (prc v (-6) c) = nI j9 from by rw [h8]; rfl) ?_
                  refine lv_iload_n hx hb dX6_overWall_104 rfl (lv_at hl 3 rfl) ?_
                  refine no_cmp_le (tgt := 118) hx hb (by omega) (fun j h => by rw [ho] at h; exact grt_ob hv c j h) dX6_overWall_105 (by decide) (fun j13 h12e h12 => ?_) (fun h12 => ?_)
                  · refine lv_iload_n hx hb dX6_overWall_118 rfl (lv_at hl 3 rfl) ?_
                    refine lv_istore_n (lv' := [(3, .int (oI mo)), (2, .int (nI (n + 0))), (0, .ref d), (1, .int (nI 4)), (4, .int (nI c)), (5, .int (zb b)), (6, .int (nI o))]) hx hb dX6_overWall_119 rfl hl (by decide) rfl (fun ls hl => ?_)
                    refine lv_iinc (v := (nI (c + 1))) (lv' := [(4, .int (nI (c + 1))), (3, .int (oI mo)), (2, .int (nI (n + 0))), (0, .ref d), (1, .int (nI 4)), (5, .int (zb b)), (6, .int (nI o))]) hx hb dX6_overWall_120 hl (k := 4) rfl (nI_inc _) (by decide) rfl (fun ls hl => ?_)
                    refine lv_goto (tgt := 12) hx hb dX6_overWall_123 (by decide) ?_
                    exact ih  (c + 1) (n + 0) mo (by omega) (by omega) (by unfold zcnt; rw [← hN]; simp [h8, ← hbq, h11]; try omega) (grt_le h8 ho h12e h12) _ _ hH hS _ (lv_sub hl [3, 4, 2, 1, 0] rfl)
                  · refine lv_aload_n hx hb dX6_overWall_108 rfl (lv_at hl 1 rfl) ?_
                    refine z_get (T := TX6) (v := .ref (d + 8)) hE hH hM2.1 rfl uw_X6 10 (by decide) fkX6_32 rfl dX6_overWall_109 ?_
                    refine lv_iload hx hb dX6_overWall_112 (lv_at hl 4 rfl) ?_
                    refine z_iald hE hH (show zArr G 0 M1 (d + 8) 60 (fun k => oI (prc v (-6) k)) from hM2.2 8 (by decide) (by decide)) (k := c) (by omega) (by decide) dX6_overWall_114 ?_
                    refine z_topeq (show oI (prc v (-6) c) = nI j9 from by rw [h8]; rfl) ?_
                    refine lv_goto (tgt := 119) hx hb dX6_overWall_115 (by decide) ?_
                    refine lv_istore_n (lv' := [(3, .int (nI j9)), (2, .int (nI (n + 0))), (0, .ref d), (1, .int (nI 4)), (4, .int (nI c)), (5, .int (zb b)), (6, .int (nI o))]) hx hb dX6_overWall_119 rfl hl (by decide) rfl (fun ls hl => ?_)
                    refine lv_iinc (v := (nI (c + 1))) (lv' := [(4, .int (nI (c + 1))), (3, .int (nI j9)), (2, .int (nI (n + 0))), (0, .ref d), (1, .int (nI 4)), (5, .int (zb b)), (6, .int (nI o))]) hx hb dX6_overWall_120 hl (k := 4) rfl (nI_inc _) (by decide) rfl (fun ls hl => ?_)
                    refine lv_goto (tgt := 12) hx hb dX6_overWall_123 (by decide) ?_
                    exact ih  (c + 1) (n + 0) (some j9) (by omega) (by omega) (by unfold zcnt; rw [← hN]; simp [h8, ← hbq, h11]; try omega) (grt_gt h8 ho h12) _ _ hH hS _ (lv_sub hl [3, 4, 2, 1, 0] rfl)
                · refine n_iconst hx hb 1 dX6_overWall_90 (by decide) ?_
                  refine lv_goto (tgt := 95) hx hb dX6_overWall_91 (by decide) ?_
                  refine n_iadd hx hb dX6_overWall_95 ?_
                  refine lv_istore_n (lv' := [(2, .int (nI (n + 1))), (0, .ref d), (1, .int (nI 4)), (3, .int (oI mo)), (4, .int (nI c)), (5, .int (zb b)), (6, .int (nI o))]) hx hb dX6_overWall_96 rfl hl (by decide) rfl (fun ls hl => ?_)
                  refine lv_aload_n hx hb dX6_overWall_97 rfl (lv_at hl 1 rfl) ?_
                  refine z_get (T := TX6) (v := .ref (d + 8)) hE hH hM2.1 rfl uw_X6 10 (by decide) fkX6_32 rfl dX6_overWall_98 ?_
                  refine lv_iload hx hb dX6_overWall_101 (lv_at hl 4 rfl) ?_
                  refine z_iald hE hH (show zArr G 0 M1 (d + 8) 60 (fun k => oI (prc v (-6) k)) from hM2.2 8 (by decide) (by decide)) (k := c) (by omega) (by decide) dX6_overWall_103 ?_
                  refine z_topeq (show oI (prc v (-6) c) = nI j9 from by rw [h8]; rfl) ?_
                  refine lv_iload_n hx hb dX6_overWall_104 rfl (lv_at hl 3 rfl) ?_
                  refine no_cmp_le (tgt := 118) hx hb (by omega) (fun j h => by rw [ho] at h; exact grt_ob hv c j h) dX6_overWall_105 (by decide) (fun j15 h14e h14 => ?_) (fun h14 => ?_)
                  · refine lv_iload_n hx hb dX6_overWall_118 rfl (lv_at hl 3 rfl) ?_
                    refine lv_istore_n (lv' := [(3, .int (oI mo)), (2, .int (nI (n + 1))), (0, .ref d), (1, .int (nI 4)), (4, .int (nI c)), (5, .int (zb b)), (6, .int (nI o))]) hx hb dX6_overWall_119 rfl hl (by decide) rfl (fun ls hl => ?_)
                    refine lv_iinc (v := (nI (c + 1))) (lv' := [(4, .int (nI (c + 1))), (3, .int (oI mo)), (2, .int (nI (n + 1))), (0, .ref d), (1, .int (nI 4)), (5, .int (zb b)), (6, .int (nI o))]) hx hb dX6_overWall_120 hl (k := 4) rfl (nI_inc _) (by decide) rfl (fun ls hl => ?_)
                    refine lv_goto (tgt := 12) hx hb dX6_overWall_123 (by decide) ?_
                    exact ih  (c + 1) (n + 1) mo (by omega) (by omega) (by unfold zcnt; rw [← hN]; simp [h8, ← hbq, h11]; try omega) (grt_le h8 ho h14e h14) _ _ hH hS _ (lv_sub hl [3, 4, 2, 1, 0] rfl)
                  · refine lv_aload_n hx hb dX6_overWall_108 rfl (lv_at hl 1 rfl) ?_
                    refine z_get (T := TX6) (v := .ref (d + 8)) hE hH hM2.1 rfl uw_X6 10 (by decide) fkX6_32 rfl dX6_overWall_109 ?_
                    refine lv_iload hx hb dX6_overWall_112 (lv_at hl 4 rfl) ?_
                    refine z_iald hE hH (show zArr G 0 M1 (d + 8) 60 (fun k => oI (prc v (-6) k)) from hM2.2 8 (by decide) (by decide)) (k := c) (by omega) (by decide) dX6_overWall_114 ?_
                    refine z_topeq (show oI (prc v (-6) c) = nI j9 from by rw [h8]; rfl) ?_
                    refine lv_goto (tgt := 119) hx hb dX6_overWall_115 (by decide) ?_
                    refine lv_istore_n (lv' := [(3, .int (nI j9)), (2, .int (nI (n + 1))), (0, .ref d), (1, .int (nI 4)), (4, .int (nI c)), (5, .int (zb b)), (6, .int (nI o))]) hx hb dX6_overWall_119 rfl hl (by decide) rfl (fun ls hl => ?_)
                    refine lv_iinc (v := (nI (c + 1))) (lv' := [(4, .int (nI (c + 1))), (3, .int (nI j9)), (2, .int (nI (n + 1))), (0, .ref d), (1, .int (nI 4)), (5, .int (zb b)), (6, .int (nI o))]) hx hb dX6_overWall_120 hl (k := 4) rfl (nI_inc _) (by decide) rfl (fun ls hl => ?_)
                    refine lv_goto (tgt := 12) hx hb dX6_overWall_123 (by decide) ?_
                    exact ih  (c + 1) (n + 1) (some j9) (by omega) (by omega) (by unfold zcnt; rw [← hN]; simp [h8, ← hbq, h11]; try omega) (grt_gt h8 ho h14) _ _ hH hS _ (lv_sub hl [3, 4, 2, 1, 0] rfl)
            · refine lv_iload hx hb dX6_overWall_32 (lv_at hl 5 rfl) ?_
              refine b_if_eq (tgt := 58) hx hb dX6_overWall_34 (by decide) (fun h17 => ?_) (fun h17 => ?_)
              · refine n_iconst hx hb 0 dX6_overWall_58 (by decide) ?_
                refine lv_istore (lv' := [(5, .int (nI 0)), (0, .ref d), (1, .int (nI 4)), (2, .int (nI n)), (3, .int (oI mo)), (4, .int (nI c)), (6, .int (nI o))]) hx hb dX6_overWall_59 hl (by decide) rfl (fun ls hl => ?_)
                refine lv_iinc (v := (nI (o + 1))) (lv' := [(6, .int (nI (o + 1))), (5, .int (nI 0)), (0, .ref d), (1, .int (nI 4)), (2, .int (nI n)), (3, .int (oI mo)), (4, .int (nI c))]) hx hb dX6_overWall_61 hl (k := 6) rfl (nI_inc _) (by decide) rfl (fun ls hl => ?_)
                refine lv_goto (tgt := 25) hx hb dX6_overWall_64 (by decide) ?_
                exact ih25  false (o + 1) (by omega) (by omega) (by show false = (nwB v c o && _); rw [← hbq, h17]; rfl) _ _ hH hS _ (lv_sub hl [2, 3, 4, 5, 6, 1, 0] rfl)
              · refine lv_aload_n hx hb dX6_overWall_37 rfl (lv_at hl 0 rfl) ?_
                refine z_get (T := TX6) (v := .ref (d + 8)) hE hH hM2.1 rfl uw_X6 10 (by decide) fkX6_32 rfl dX6_overWall_38 ?_
                refine lv_iload hx hb dX6_overWall_41 (lv_at hl 6 rfl) ?_
                refine z_iald hE hH (show zArr G 0 M1 (d + 8) 60 (fun k => oI (prc v (-6) k)) from hM2.2 8 (by decide) (by decide)) (k := o) (by omega) (by decide) dX6_overWall_43 ?_
                refine lv_aload_n hx hb dX6_overWall_44 rfl (lv_at hl 0 rfl) ?_
                refine z_get (T := TX6) (v := .ref (d + 8)) hE hH hM2.1 rfl uw_X6 10 (by decide) fkX6_32 rfl dX6_overWall_45 ?_
                refine lv_iload hx hb dX6_overWall_48 (lv_at hl 4 rfl) ?_
                refine z_iald hE hH (show zArr G 0 M1 (d + 8) 60 (fun k => oI (prc v (-6) k)) from hM2.2 8 (by decide) (by decide)) (k := c) (by omega) (by decide) dX6_overWall_50 ?_
                refine oo_cmp_eq (tgt := 58) hx hb (prc_ob31 hv) (prc_ob31 hv) dX6_overWall_51 (by decide) (fun h18 => ?_) (fun h18 => ?_)
                · refine n_iconst hx hb 0 dX6_overWall_58 (by decide) ?_
                  refine lv_istore (lv' := [(5, .int (nI 0)), (0, .ref d), (1, .int (nI 4)), (2, .int (nI n)), (3, .int (oI mo)), (4, .int (nI c)), (6, .int (nI o))]) hx hb dX6_overWall_59 hl (by decide) rfl (fun ls hl => ?_)
                  refine lv_iinc (v := (nI (o + 1))) (lv' := [(6, .int (nI (o + 1))), (5, .int (nI 0)), (0, .ref d), (1, .int (nI 4)), (2, .int (nI n)), (3, .int (oI mo)), (4, .int (nI c))]) hx hb dX6_overWall_61 hl (k := 6) rfl (nI_inc _) (by decide) rfl (fun ls hl => ?_)
                  refine lv_goto (tgt := 25) hx hb dX6_overWall_64 (by decide) ?_
                  exact ih25  false (o + 1) (by omega) (by omega) (by show false = (nwB v c o && decide _); rw [← hbq, h17, decide_eq_false (fun q => q h18)]; rfl) _ _ hH hS _ (lv_sub hl [2, 3, 4, 5, 6, 1, 0] rfl)
                · refine n_iconst hx hb 1 dX6_overWall_54 (by decide) ?_
                  refine lv_goto (tgt := 59) hx hb dX6_overWall_55 (by decide) ?_
                  refine lv_istore (lv' := [(5, .int (nI 1)), (0, .ref d), (1, .int (nI 4)), (2, .int (nI n)), (3, .int (oI mo)), (4, .int (nI c)), (6, .int (nI o))]) hx hb dX6_overWall_59 hl (by decide) rfl (fun ls hl => ?_)
                  refine lv_iinc (v := (nI (o + 1))) (lv' := [(6, .int (nI (o + 1))), (5, .int (nI 1)), (0, .ref d), (1, .int (nI 4)), (2, .int (nI n)), (3, .int (oI mo)), (4, .int (nI c))]) hx hb dX6_overWall_61 hl (k := 6) rfl (nI_inc _) (by decide) rfl (fun ls hl => ?_)
                  refine lv_goto (tgt := 25) hx hb dX6_overWall_64 (by decide) ?_
                  exact ih25  true (o + 1) (by omega) (by omega) (by show true = (nwB v c o && decide _); rw [← hbq, h17, decide_eq_true h18]; rfl) _ _ hH hS _ (lv_sub hl [2, 3, 4, 5, 6, 1, 0] rfl)
        exact L25 (c + 1) true 0 (by omega) (by omega) rfl _ _ hH hS _ (lv_sub hl [2, 3, 4, 5, 6, 1, 0] rfl)
  exact L12 61 0 0 none (by omega) (by omega) rfl rfl _ _ hH hS _ (lv_sub hl [3, 4, 2, 1, 0] rfl)
