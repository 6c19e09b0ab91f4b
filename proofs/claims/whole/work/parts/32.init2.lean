theorem wl_made {G : zG} {w : Nat} {M : Mm} {r : Nat → Option Nat} {g : Nat → Int32} (hO : M w = some (.inr (4, [.ref (w + 1), .int (nI 0), .ref (w + 26), .int (nI 0), .int (nI 0), .int (nI 0)]))) (hA : M (w + 1) = some (.inl (G.2 1, 12, .inr (.inr (.inr (.inr r)))))) (hr : ∀ i, i < 12 → r i = some (w + 2 + 2 * i)) (hP : ∀ j, j < 12 → Pst G (w + 2 + 2 * j) (fun _ => 0) (fun _ => 0) M) (hU : zArr G 0 M (w + 26) 10 g) (hg : ∀ i, i < 10 → g i = nI 1) : Wl G w v00 M := by
  refine ⟨fun i => i, ⟨fun j hj => hj, fun i j _ _ h => h⟩, hO, ⟨r, hA, hr⟩, hU.to (fun i hi => ?_), fun j hj => ⟨_, _, hP j hj⟩, fun j hj => absurd hj (Nat.not_lt_zero j)⟩
  rw [hg i hi]
  show nI 1 = nI (if 4 ≤ 4 + i ∧ 4 + i < 14 then 1 else 0)
  rw [if_pos (by omega)]
theorem hs_made {G : zG} {h : Nat} {M : Mm} {r : Nat → Option Nat} (hO : M h = some (.inr (1, [.ref (h + 1), .int (nI 0)]))) (hA : M (h + 1) = some (.inl (G.2 2, 6, .inr (.inr (.inr (.inr r)))))) (hr : ∀ i, i < 6 → r i = some (h + 2 + 27 * i)) (hW : ∀ j, j < 6 → Wl G (h + 2 + 27 * j) v00 M) : HsB G h 0 (fun i => i) M :=
  ⟨hO, ⟨r, hA, hr⟩, fun k hk => ⟨v00, v00_0, hW k hk⟩⟩
section ZI
variable {p : Program} {l : Launch} {e : Env} {R : Room} {s : State} {m : MethodId} {args : Array Value} {below : List Frame} {meth : Method} {c : Code} {H : Heap} {locs : List Loc} {cells slots : Nat} {Q : State → Prop}
variable {cc cc' : ByteArray} {pc nL nL' k' mc ms n nd idx sz : Nat} {ls : Array Slot} {rest st As : List Value} {lv : List (Nat × Value)} {G : zG} {M : Mm} {a b B0 : Nat} {own : String} {ret ret' : Option FieldType} {y : MethodName} {v : Option Value} {post : Mm → Prop}
theorem z_callINA {host : String} (hE : zE p s m args meth c G own cc nL ret) (hH : zH G M H) (hS : zS n B0 s.heap H locs) (hB0 : B0 ≤ s.heap.size) (hl : lv_has ls nL lv) (ca : zCai y cc' nL' nd) (hli : va_Nw (.methodLinkNest own idx y host) s) (hM : zMetA l y cc' nL' none k' mc ms G B0 M (.ref b :: As) none sz post) (hsz : sz = H.size) (hn : As.length = nd) (hst : st = As.reverse ++ .ref b :: rest) (hr : k' + 1 ≤ R.frames ∧ 19 + nL' + 32 * k' ≤ R.locals) (hcat : (rest.map fun v => v.category).sum ≤ 8) (hcs : cells + mc ≤ R.cells ∧ slots + ms ≤ R.slots) (hdg : decode cc pc = .ok (.invokespecial idx, 3))
    (kk : ∀ (H1 : Heap) (locs1 : List Loc) (M1 : Mm), zH G M1 H1 → post M1 → zS (n + mc) B0 s.heap H1 locs1 → W p l e R s m args below meth c H1 locs1 (cells + mc) (slots + ms) Q (F0 m (pc + 3) ls rest)) : W p l e R s m args below meth c H locs cells slots Q (F0 m pc ls st) := by
  have hts := hE.2.2.2.2.1
  have hK := hE.2.2.2.2.2.2.2
  subst hst
  subst hsz
  have hB := z_cn (R := R) (mc := mc) (ms := ms) hE ca.1 ca.2.2.1 ca.2.2.2.2 hli hr
  exact z_run (v := none) (va_runIN (Ts := Tb) (As := As) (rest := rest) ⟨hE.1, hE.2.1, hE.2.2.1, hE.2.2.2.1, hts⟩ (hM (by rw [hS.2]; omega)) ⟨hB, ca.2.2.2.1, hts _ ca.2.1⟩ ⟨zP.blind, fun U hU hW => ⟨rfl, by rw [hU]; exact hH, hK.warm hW, by rw [hU]⟩⟩ rfl hn hl.1 rfl (lv_room hcat) hdg hcs) hS kk
end ZI
def σ0 : Sg := (v00, 0, fun _ => v00, fun _ => v00, fun _ => false, 0, fun _ => 0)
theorem v00_ok : wOk v00 := by
  refine ⟨by decide, by decide, fun x hx => ?_, fun j hj => absurd hj (Nat.not_lt_zero j)⟩
  show (if 4 ≤ 4 + x ∧ 4 + x < 14 then 1 else 0) ≤ 9
  split <;> omega
theorem σ0_ok : sOk σ0 := ⟨⟨v00_ok, by decide⟩, by decide, fun k hk => absurd hk (Nat.not_lt_zero k), fun k _ h => (Bool.noConfusion (show false = true from h)), by decide, fun i hi => absurd hi (Nat.not_lt_zero i)⟩

theorem wl_at {G : zG} {w : Nat} {v : Wv} {M : Mm} (h : Wl G w v M) : ∃ vs : List Value, M w = some (.inr (4, vs)) := by
  obtain ⟨r, hr, h⟩ := h
  exact ⟨_, h.1⟩

set_option maxHeartbeats 4000000 in
set_option maxRecDepth 100000 in
theorem c_X4_init (l : Launch) (G : zG) (B0 : Nat) (M : Mm) (w : Nat) (hM0 : M w = some (.inr (4, [.null, .int (nI 0), .null, .int (nI 0), .int (nI 0), .int (nI 0)]))) (hBa : B0 ≤ w) : zMetA l yX4_init cX4_init 2 none 2 26 838 G B0 M [.ref w] none (w + 1) (fun M1 => Wl G w v00 M1 ∧ ∀ q : Nat, (q < w ∨ w + 27 ≤ q) → M1 q = M q) := by
  refine z_metA RX4 [(0, .ref w)] (by decide) rfl (Nat.le_of_ble_eq_true rfl) rfl ?_
  intro pg ev s m below meth cd ls hE hin hB0 hsz hH hl
  have hx := hE.1
  have hb := hE.2.1
  have hF : ∀ q : Nat, (q < w ∨ w + 27 ≤ q) → M q = M q := fun _ _ => rfl
  refine z_gen B0 (fun H locs hH hS => ?_) hH
  refine lv_aload_n hx hb dX4_init_0 rfl (lv_at hl 0 rfl) ?_
  refine z_obj hE hl mkX4_3 (Nat.le_of_ble_eq_true rfl) (Nat.le_of_ble_eq_true rfl) dX4_init_1 ?_
  refine lv_aload_n hx hb dX4_init_4 rfl (lv_at hl 0 rfl) ?_
  refine n_bipush hx hb 12 dX4_init_5 (by decide) ?_
  refine z_newq (a := w + 1) hE hH hS (by rw [hS.2]; omega) 1 rfl clX4_9 hE.2.2.2.2.2.2.2.2.1 (N := 12) (by decide) (by show _ ≤ 26; omega) (by show _ ≤ 838; omega) dX4_init_7 (fun H M3 hH hS e1 o2 => ?_)
  have k4 := (o2 _ (by omega)).trans hM0
  have k5 := fun q hq => (o2 q (by omega)).trans (hF q hq)
  refine z_putF (T := TX4) hE hin hH hS k4 rfl uw_X4 tyX4 tyX4_ok nmX4 0 (by decide) fkX4_11 rfl rfl rfl rfl (Nat.le_of_ble_eq_true rfl) (by omega) dX4_init_10 (fun H locs M8 hH hS e6 o7 => ?_)
  have k9 := fun q hq => (o7 q (by omega)).trans (k5 q hq)
  have k10 := (o7 _ (by omega)).trans e1
  refine n_iconst hx hb 0 dX4_init_13 (by decide) ?_
  refine lv_istore_n (lv' := [(1, .int (nI 0)), (0, .ref w)]) hx hb dX4_init_14 rfl hl (by decide) rfl (fun ls hl => ?_)
  refine W.widen (k := 1 + 2 * (0)) (n := 12 + 68 * (0)) (by omega) (by omega) ?_
  have hS := hS.to (n' := 1 + 2 * (0)) (by omega)
  have L15 : ∀ (dd : Nat) (k : Nat) (r : Nat → Option Nat) (M1 : Mm), 12 < k + dd → (k ≤ 12) → (M1 w = some (.inr (4, [.ref (w + 1), .int (nI 0), .null, .int (nI 0), .int (nI 0), .int (nI 0)]))) → (M1 (w + 1) = some (.inl (G.2 1, 12, .inr (.inr (.inr (.inr r)))))) → (∀ i, i < k → r i = some (w + 2 + 2 * i)) → (∀ j, j < k → Pst G (w + 2 + 2 * j) (fun _ => 0) (fun _ => 0) M1) → (∀ q : Nat, (q < w ∨ w + 27 ≤ q) → M1 q = M q) → ∀ (H : Heap) (locs : List Loc), zH G M1 H → zS (1 + 2 * k) B0 s.heap H locs → ∀ (ls : Array Slot), lv_has ls 2 [(0, .ref w), (1, .int (nI k))] → zW pg l ev 2 26 838 s m [.ref w] below meth cd H locs (1 + 2 * k) (12 + 68 * k) G B0 none (fun M1 => Wl G w v00 M1 ∧ ∀ q : Nat, (q < w ∨ w + 27 ≤ q) → M1 q = M q) (F0 m 15 ls []) := by
    intro dd
    induction dd with
    | zero =>
      intro k r M1 hdd hk hO1 hA1 hr hP1 hF1
      exact absurd hdd (by omega)
    | succ dd ih =>
      intro k r M1 hdd hk hO1 hA1 hr hP1 hF1 H locs hH hS ls hl
      refine lv_iload_n hx hb dX4_init_15 rfl (lv_at hl 1 rfl) ?_
      refine n_bipush hx hb 12 dX4_init_16 (by decide) ?_
      refine n_cmp_ge (tgt := 40) hx hb (by omega) (by decide) dX4_init_18 (by decide) (fun h11 => ?_) (fun h11 => ?_)
      · have hk12 : k = 12 := by omega
        subst hk12
        refine lv_aload_n hx hb dX4_init_40 rfl (lv_at hl 0 rfl) ?_
        refine n_bipush hx hb 10 dX4_init_41 (by decide) ?_
        refine z_newa (a := w + 26) hE hH hS (by rw [hS.2]; omega) 0 rfl rfl ac_int ra_int rfl (N := 10) (by decide) (Nat.le_of_ble_eq_true rfl) (by show _ ≤ 26; omega) (by show _ ≤ 838; omega) dX4_init_43 (fun H M14 hH hS e12 o13 => ?_)
        have k15 := (o13 _ (by omega)).trans hO1
        have k16 := fun q hq => (o13 q (by omega)).trans (hF1 q hq)
        have k17 := (o13 _ (by omega)).trans hA1
        have k18 := fun j hj => (hP1 j hj).kept (o13 _ (by omega)) (o13 _ (by omega))
        refine z_putF (T := TX4) hE hin hH hS k15 rfl uw_X4 tyX4 tyX4_ok nmX4 2 (by decide) fkX4_18 rfl rfl rfl rfl (Nat.le_of_ble_eq_true rfl) (by omega) dX4_init_45 (fun H locs M21 hH hS e19 o20 => ?_)
        have k22 := fun q hq => (o20 q (by omega)).trans (k16 q hq)
        have k23 := (o20 _ (by omega)).trans k17
        have k24 := fun j hj => (k18 j hj).kept (o20 _ (by omega)) (o20 _ (by omega))
        have k25 := e12.kept (o20 _ (by omega))
        refine n_iconst hx hb 0 dX4_init_48 (by decide) ?_
        refine lv_istore_n (lv' := [(1, .int (nI 0)), (0, .ref w)]) hx hb dX4_init_49 rfl hl (by decide) rfl (fun ls hl => ?_)
        have L50 : ∀ (dd50 : Nat) (x : Nat) (g2 : Nat → Int32) (M2 : Mm), 10 < x + dd50 → (x ≤ 10) → (M2 w = some (.inr (4, [.ref (w + 1), .int (nI 0), .ref (w + 26), .int (nI 0), .int (nI 0), .int (nI 0)]))) → (M2 (w + 1) = some (.inl (G.2 1, 12, .inr (.inr (.inr (.inr r)))))) → (∀ j, j < 12 → Pst G (w + 2 + 2 * j) (fun _ => 0) (fun _ => 0) M2) → (zArr G 0 M2 (w + 26) 10 g2) → (∀ i, i < x → g2 i = nI 1) → (∀ q : Nat, (q < w ∨ w + 27 ≤ q) → M2 q = M q) → ∀ (H : Heap) (locs : List Loc), zH G M2 H → zS 26 B0 s.heap H locs → ∀ (ls : Array Slot), lv_has ls 2 [(0, .ref w), (1, .int (nI x))] → zW pg l ev 2 26 838 s m [.ref w] below meth cd H locs 26 838 G B0 none (fun M1 => Wl G w v00 M1 ∧ ∀ q : Nat, (q < w ∨ w + 27 ≤ q) → M1 q = M q) (F0 m 50 ls []) := by
          intro dd50
          induction dd50 with
          | zero =>
            intro x g2 M2 hdd50 hx10 hO2 hA2 hP2 hU2 hg2 hF2
            exact absurd hdd50 (by omega)
          | succ dd50 ih50 =>
            intro x g2 M2 hdd50 hx10 hO2 hA2 hP2 hU2 hg2 hF2 H locs hH hS ls hl
            refine lv_iload_n hx hb dX4_init_50 rfl (lv_at hl 1 rfl) ?_
            refine n_bipush hx hb 10 dX4_init_51 (by decide) ?_
            refine n_cmp_ge (tgt := 69) hx hb (by omega) (by decide) dX4_init_53 (by decide) (fun h26 => ?_) (fun h26 => ?_)
            · refine W.widen (k := 26) (n := 838) (by omega) (by omega) ?_
              exact z_vret hE hH (hS.to (by omega)) ⟨wl_made hO2 hA2 hr hP2 hU2 (fun i hi => hg2 i (by omega)), hF2⟩ dX4_init_69
            · refine lv_aload_n hx hb dX4_init_56 rfl (lv_at hl 0 rfl) ?_
              refine z_get (T := TX4) (v := .ref (w + 26)) hE hH hO2 rfl uw_X4 2 (by decide) fkX4_18 rfl dX4_init_57 ?_
              refine lv_iload_n hx hb dX4_init_60 rfl (lv_at hl 1 rfl) ?_
              refine n_iconst hx hb 1 dX4_init_61 (by decide) ?_
              refine z_iast hE hH hS hU2 (k := x) (by omega) (by decide) (by omega) dX4_init_62 (fun H locs M29 hH hS e27 o28 => ?_)
              have k30 := (o28 _ (by omega)).trans hO2
              have k31 := fun q hq => (o28 q (by omega)).trans (hF2 q hq)
              have k32 := (o28 _ (by omega)).trans hA2
              have k33 := fun j hj => (hP2 j hj).kept (o28 _ (by omega)) (o28 _ (by omega))
              refine lv_iinc (v := (nI (x + 1))) (lv' := [(1, .int (nI (x + 1))), (0, .ref w)]) hx hb dX4_init_63 hl (k := 1) rfl (nI_inc _) (by decide) rfl (fun ls hl => ?_)
              refine lv_goto (tgt := 50) hx hb dX4_init_66 (by decide) ?_
              exact ih50  (x + 1) (fun i => if i = x then (nI 1) else g2 i) M29 (by omega) (by omega) k30 k32 k33 e27 (fun i hi => by show (if i = x then _ else _) = _; by_cases hix : i = x; (· subst hix; rw [if_pos rfl]); (· rw [if_neg hix]; exact hg2 i (by omega))) k31 _ _ hH hS _ (lv_sub hl [1, 0] rfl)
        exact L50 11 0 (fun _ => 0) M21 (by omega) (by omega) e19 k23 k24 k25 (fun i hi => absurd hi (Nat.not_lt_zero i)) k22 _ _ hH hS _ (lv_sub hl [1, 0] rfl)
      · refine lv_aload_n hx hb dX4_init_21 rfl (lv_at hl 0 rfl) ?_
        refine z_get (T := TX4) (v := .ref (w + 1)) hE hH hO1 rfl uw_X4 0 (by decide) fkX4_11 rfl dX4_init_22 ?_
        refine lv_iload_n hx hb dX4_init_25 rfl (lv_at hl 1 rfl) ?_
        refine z_new (a := w + 2 + 2 * k) (ci := 3) (T := TX3) (fs := [.int (nI 0), .int (nI 0), .int (nI 0), .int (nI 0), .int (nI 0), .int (nI 0), .int (nI 0), .null]) hE hH hS (by rw [hS.2]; omega) rfl uw_X3 tyX3 tyX3_ok clX4_9 ins_X3 ini_X3 (fun j hj => by rcases (show j = 0 ∨ j = 1 ∨ j = 2 ∨ j = 3 ∨ j = 4 ∨ j = 5 ∨ j = 6 ∨ j = 7 by omega) with rfl | rfl | rfl | rfl | rfl | rfl | rfl | rfl <;> rfl) (by show _ ≤ 26; omega) (by show _ ≤ 838; omega) dX4_init_26 (fun H M36 hH hS e34 o35 => ?_)
        have k37 := (o35 _ (by omega)).trans hO1
        have k38 := fun q hq => (o35 q (by omega)).trans (hF1 q hq)
        have k39 := (o35 _ (by omega)).trans hA1
        have k40 := fun j hj => (hP1 j hj).kept (o35 _ (by omega)) (o35 _ (by omega))
        refine lv_dup hx hb dX4_init_29 rfl ?_
        refine z_callIA (rest := [.ref (w + 2 + 2 * k), .int (nI k), .ref (w + 1)]) hE hH hS hB0 hl ca_X3_init mkX4_17 (c_X3_init l G B0 M36 (w + 2 + 2 * k) e34 (by omega)) (by rw [hS.2]; omega) rfl rfl ⟨Nat.le_of_ble_eq_true rfl, Nat.le_of_ble_eq_true rfl⟩ (Nat.le_of_ble_eq_true rfl) ⟨(by show _ ≤ 26; omega), (by show _ ≤ 838; omega)⟩ dX4_init_30 (fun H locs M41 hH hp hS => ?_)
        obtain ⟨hp42, hG43⟩ := hp
        have k44 := (hG43 _ (by omega)).trans k37
        have k45 := fun q hq => (hG43 q (by omega)).trans (k38 q hq)
        have k46 := (hG43 _ (by omega)).trans k39
        have k47 := fun j hj => (k40 j hj).kept (hG43 _ (by omega)) (hG43 _ (by omega))
        refine z_aast hE hH hS k46 rfl hp42.1 rfl (k := k) (by omega) (by decide) (by omega) dX4_init_33 (fun H locs M50 hH hS e48 o49 => ?_)
        have k51 := (o49 _ (by omega)).trans k44
        have k52 := fun q hq => (o49 q (by omega)).trans (k45 q hq)
        have k53 := fun j hj => (k47 j hj).kept (o49 _ (by omega)) (o49 _ (by omega))
        have k54 := hp42.kept (o49 _ (by omega)) (o49 _ (by omega))
        refine lv_iinc (v := (nI (k + 1))) (lv' := [(1, .int (nI (k + 1))), (0, .ref w)]) hx hb dX4_init_34 hl (k := 1) rfl (nI_inc _) (by decide) rfl (fun ls hl => ?_)
        refine lv_goto (tgt := 15) hx hb dX4_init_37 (by decide) ?_
        refine W.widen (k := 1 + 2 * (k + 1)) (n := 12 + 68 * (k + 1)) (by omega) (by omega) ?_
        have hS := hS.to (n' := 1 + 2 * (k + 1)) (by omega)
        exact ih  (k + 1) (fun i => if i = k then some (w + 2 + 2 * k) else r i) M50 (by omega) (by omega) k51 e48 (fun i hi => by show (if i = k then _ else _) = _; by_cases hik : i = k; (· subst hik; rw [if_pos rfl]); (· rw [if_neg hik]; exact hr i (by omega))) (fun j hj => by by_cases hjk : j = k; (· subst hjk; exact k54); (· exact k53 j (by omega))) k52 _ _ hH hS _ (lv_sub hl [1, 0] rfl)
  exact L15 13 0 (fun _ => none) M8 (by omega) (by omega) e6 k10 (fun i hi => absurd hi (Nat.not_lt_zero i)) (fun i hi => absurd hi (Nat.not_lt_zero i)) k9 _ _ hH hS _ (lv_sub hl [1, 0] rfl)

set_option maxHeartbeats 4000000 in
set_option maxRecDepth 100000 in
theorem c_X1_init (l : Launch) (G : zG) (B0 : Nat) (M : Mm) (h : Nat) (hM0 : M h = some (.inr (1, [.null, .int (nI 0)]))) (hBa : B0 ≤ h) : zMetA l yX1_init cX1_init 2 none 3 163 5070 G B0 M [.ref h] none (h + 1) (fun M1 => HsB G h 0 (fun i => i) M1 ∧ ∀ q : Nat, (q < h ∨ h + 164 ≤ q) → M1 q = M q) := by
  refine z_metA RX1 [(0, .ref h)] (by decide) rfl (Nat.le_of_ble_eq_true rfl) rfl ?_
  intro pg ev s m below meth cd ls hE hin hB0 hsz hH hl
  have hx := hE.1
  have hb := hE.2.1
  have hF : ∀ q : Nat, (q < h ∨ h + 164 ≤ q) → M q = M q := fun _ _ => rfl
  refine z_gen B0 (fun H locs hH hS => ?_) hH
  refine lv_aload_n hx hb dX1_init_0 rfl (lv_at hl 0 rfl) ?_
  refine z_obj hE hl mkX1_3 (Nat.le_of_ble_eq_true rfl) (Nat.le_of_ble_eq_true rfl) dX1_init_1 ?_
  refine lv_aload_n hx hb dX1_init_4 rfl (lv_at hl 0 rfl) ?_
  refine n_bipush hx hb 6 dX1_init_5 (by decide) ?_
  refine z_newq (a := h + 1) hE hH hS (by rw [hS.2]; omega) 2 rfl clX1_9 hE.2.2.2.2.2.2.2.2.2.1 (N := 6) (by decide) (by show _ ≤ 163; omega) (by show _ ≤ 5070; omega) dX1_init_7 (fun H M3 hH hS e1 o2 => ?_)
  have k4 := (o2 _ (by omega)).trans hM0
  have k5 := fun q hq => (o2 q (by omega)).trans (hF q hq)
  refine z_putF (T := TX1) hE hin hH hS k4 rfl uw_X1 tyX1 tyX1_ok nmX1 0 (by decide) fkX1_11 rfl rfl rfl rfl (Nat.le_of_ble_eq_true rfl) (by omega) dX1_init_10 (fun H locs M8 hH hS e6 o7 => ?_)
  have k9 := fun q hq => (o7 q (by omega)).trans (k5 q hq)
  have k10 := (o7 _ (by omega)).trans e1
  refine n_iconst hx hb 0 dX1_init_13 (by decide) ?_
  refine lv_istore_n (lv' := [(1, .int (nI 0)), (0, .ref h)]) hx hb dX1_init_14 rfl hl (by decide) rfl (fun ls hl => ?_)
  refine W.widen (k := 1 + 27 * (0)) (n := 6 + 844 * (0)) (by omega) (by omega) ?_
  have hS := hS.to (n' := 1 + 27 * (0)) (by omega)
  have L15 : ∀ (dd : Nat) (k : Nat) (r : Nat → Option Nat) (M1 : Mm), 6 < k + dd → (k ≤ 6) → (M1 h = some (.inr (1, [.ref (h + 1), .int (nI 0)]))) → (M1 (h + 1) = some (.inl (G.2 2, 6, .inr (.inr (.inr (.inr r)))))) → (∀ i, i < k → r i = some (h + 2 + 27 * i)) → (∀ j, j < k → Wl G (h + 2 + 27 * j) v00 M1) → (∀ q : Nat, (q < h ∨ h + 164 ≤ q) → M1 q = M q) → ∀ (H : Heap) (locs : List Loc), zH G M1 H → zS (1 + 27 * k) B0 s.heap H locs → ∀ (ls : Array Slot), lv_has ls 2 [(0, .ref h), (1, .int (nI k))] → zW pg l ev 3 163 5070 s m [.ref h] below meth cd H locs (1 + 27 * k) (6 + 844 * k) G B0 none (fun M1 => HsB G h 0 (fun i => i) M1 ∧ ∀ q : Nat, (q < h ∨ h + 164 ≤ q) → M1 q = M q) (F0 m 15 ls []) := by
    intro dd
    induction dd with
    | zero =>
      intro k r M1 hdd hk hO1 hA1 hr hP1 hF1
      exact absurd hdd (by omega)
    | succ dd ih =>
      intro k r M1 hdd hk hO1 hA1 hr hP1 hF1 H locs hH hS ls hl
      refine lv_iload_n hx hb dX1_init_15 rfl (lv_at hl 1 rfl) ?_
      refine n_bipush hx hb 6 dX1_init_16 (by decide) ?_
      refine n_cmp_ge (tgt := 40) hx hb (by omega) (by decide) dX1_init_18 (by decide) (fun h11 => ?_) (fun h11 => ?_)
      · refine W.widen (k := 163) (n := 5070) (by omega) (by omega) ?_
        have hk12 : k = 6 := by omega
        subst hk12
        exact z_vret hE hH (hS.to (by omega)) ⟨hs_made hO1 hA1 hr hP1, hF1⟩ dX1_init_40
      · refine lv_aload_n hx hb dX1_init_21 rfl (lv_at hl 0 rfl) ?_
        refine z_get (T := TX1) (v := .ref (h + 1)) hE hH hO1 rfl uw_X1 0 (by decide) fkX1_11 rfl dX1_init_22 ?_
        refine lv_iload_n hx hb dX1_init_25 rfl (lv_at hl 1 rfl) ?_
        refine z_new (a := h + 2 + 27 * k) (ci := 4) (T := TX4) (fs := [.null, .int (nI 0), .null, .int (nI 0), .int (nI 0), .int (nI 0)]) hE hH hS (by rw [hS.2]; omega) rfl uw_X4 tyX4 tyX4_ok clX1_9 ins_X4 ini_X4 (fun j hj => by rcases (show j = 0 ∨ j = 1 ∨ j = 2 ∨ j = 3 ∨ j = 4 ∨ j = 5 by omega) with rfl | rfl | rfl | rfl | rfl | rfl <;> rfl) (by show _ ≤ 163; omega) (by show _ ≤ 5070; omega) dX1_init_26 (fun H M14 hH hS e12 o13 => ?_)
        have k15 := (o13 _ (by omega)).trans hO1
        have k16 := fun q hq => (o13 q (by omega)).trans (hF1 q hq)
        have k17 := (o13 _ (by omega)).trans hA1
        have k18 := fun j hj => (hP1 j hj).kept v00_0 (fun q q1 q2 => o13 q (by omega))
        refine lv_dup hx hb dX1_init_29 rfl ?_
        refine z_callIA (rest := [.ref (h + 2 + 27 * k), .int (nI k), .ref (h + 1)]) hE hH hS hB0 hl ca_X4_init mkX1_17 (c_X4_init l G B0 M14 (h + 2 + 27 * k) e12 (by omega)) (by rw [hS.2]; omega) rfl rfl ⟨Nat.le_of_ble_eq_true rfl, Nat.le_of_ble_eq_true rfl⟩ (Nat.le_of_ble_eq_true rfl) ⟨(by show _ ≤ 163; omega), (by show _ ≤ 5070; omega)⟩ dX1_init_30 (fun H locs M19 hH hp hS => ?_)
        obtain ⟨hp20, hG21⟩ := hp
        have k22 := (hG21 _ (by omega)).trans k15
        have k23 := fun q hq => (hG21 q (by omega)).trans (k16 q hq)
        have k24 := (hG21 _ (by omega)).trans k17
        have k25 := fun j hj => (k18 j hj).kept v00_0 (fun q q1 q2 => hG21 q (by omega))
        refine z_aast hE hH hS k24 rfl (wl_at hp20).choose_spec rfl (k := k) (by omega) (by decide) (by omega) dX1_init_33 (fun H locs M29 hH hS e27 o28 => ?_)
        have k30 := (o28 _ (by omega)).trans k22
        have k31 := fun q hq => (o28 q (by omega)).trans (k23 q hq)
        have k32 := fun j hj => (k25 j hj).kept v00_0 (fun q q1 q2 => o28 q (by omega))
        have k33 := hp20.kept v00_0 (fun q q1 q2 => o28 q (by omega))
        refine lv_iinc (v := (nI (k + 1))) (lv' := [(1, .int (nI (k + 1))), (0, .ref h)]) hx hb dX1_init_34 hl (k := 1) rfl (nI_inc _) (by decide) rfl (fun ls hl => ?_)
        refine lv_goto (tgt := 15) hx hb dX1_init_37 (by decide) ?_
        refine W.widen (k := 1 + 27 * (k + 1)) (n := 6 + 844 * (k + 1)) (by omega) (by omega) ?_
        have hS := hS.to (n' := 1 + 27 * (k + 1)) (by omega)
        exact ih  (k + 1) (fun i => if i = k then some (h + 2 + 27 * k) else r i) M29 (by omega) (by omega) k30 e27 (fun i hi => by show (if i = k then _ else _) = _; by_cases hik : i = k; (· subst hik; rw [if_pos rfl]); (· rw [if_neg hik]; exact hr i (by omega))) (fun j hj => by by_cases hjk : j = k; (· subst hjk; exact k33); (· exact k32 j (by omega))) k31 _ _ hH hS _ (lv_sub hl [1, 0] rfl)
  exact L15 7 0 (fun _ => none) M8 (by omega) (by omega) e6 k10 (fun i hi => absurd hi (Nat.not_lt_zero i)) (fun i hi => absurd hi (Nat.not_lt_zero i)) k9 _ _ hH hS _ (lv_sub hl [1, 0] rfl)
