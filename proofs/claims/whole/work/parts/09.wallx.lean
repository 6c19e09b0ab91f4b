/-- a wall, part by part -/
def WlX (G : zG) (w : Nat) (r : Nat → Nat) (n d sa br : Nat) (U : Nat → Nat) (F C : Nat → Nat → Nat) (M : Mm) : Prop :=
  M w = some (.inr (4, [.ref (w + 1), .int (nI n), .ref (w + 26), .int (nI d), .int (nI sa), .int (nI br)])) ∧
  zRef G 1 M (w + 1) 12 (fun j => w + 2 + 2 * r j) ∧ zArr G 0 M (w + 26) 10 (fun x => nI (U x)) ∧ ∀ j, j < 12 → Pst G (w + 2 + 2 * r j) (F j) (C j) M
theorem WlR.toX {G : zG} {w : Nat} {r : Nat → Nat} {v : Wv} {M : Mm} (h : WlR G w r v M) (hn : v 0 ≤ 12) : ∃ F C, WlX G w r (v 0) (v 1) (v 2) (v 3) (sv v) F C M ∧ ∀ j, j < v 0 → F j = pv v j ∧ C j = cv v j := by
  obtain ⟨h1, h2, h3, h4, h5⟩ := h
  have hc : ∀ j, ∃ f g, j < 12 → Pst G (w + 2 + 2 * r j) f g M ∧ (j < v 0 → f = pv v j ∧ g = cv v j) := by
    intro j
    by_cases hj : j < v 0
    · exact ⟨pv v j, cv v j, fun _ => ⟨h5 j hj, fun _ => ⟨rfl, rfl⟩⟩⟩
    · by_cases hj2 : j < 12
      · obtain ⟨f, g, h⟩ := h4 j hj2
        exact ⟨f, g, fun _ => ⟨h, fun q => absurd q hj⟩⟩
      · exact ⟨fun _ => 0, fun _ => 0, fun q => absurd q hj2⟩
  refine ⟨fun j => Classical.choose (hc j), fun j => Classical.choose (Classical.choose_spec (hc j)), ⟨h1, h2, h3, fun j hj => ?_⟩, fun j hj => ?_⟩
  · exact ((Classical.choose_spec (Classical.choose_spec (hc j))) hj).1
  · exact ((Classical.choose_spec (Classical.choose_spec (hc j))) (by omega)).2 hj
theorem WlX.toR {G : zG} {w n d sa br : Nat} {r : Nat → Nat} {U : Nat → Nat} {F C : Nat → Nat → Nat} {M : Mm} (h : WlX G w r n d sa br U F C M) (v : Wv) (hn : v 0 ≤ 12) (e0 : n = v 0) (e1 : d = v 1) (e2 : sa = v 2) (e3 : br = v 3) (eU : ∀ x, x < 10 → U x = sv v x) (eF : ∀ j, j < v 0 → (∀ k, k < 7 → F j k = pv v j k) ∧ ∀ c, c < 60 → C j c = cv v j c) : WlR G w r v M := by
  obtain ⟨h1, h2, h3, h4⟩ := h
  subst e0; subst e1; subst e2; subst e3
  exact ⟨h1, h2, h3.to fun x hx => congrArg nI (eU x hx), fun j hj => ⟨_, _, h4 j hj⟩, fun j hj => (h4 j (by omega)).to (eF j hj).1 (eF j hj).2⟩
theorem WlX.setO {G : zG} {w n d sa br i x : Nat} {r : Nat → Nat} {U : Nat → Nat} {F C : Nat → Nat → Nat} {M M1 : Mm} (h : WlX G w r n d sa br U F C M) (hr : rOk r) (hi : i = 1 ∨ i = 3 ∨ i = 4 ∨ i = 5) (e : M1 w = some (.inr (4, ([.ref (w + 1), .int (nI n), .ref (w + 26), .int (nI d), .int (nI sa), .int (nI br)] : List Value).set i (.int (nI x))))) (o : ∀ q : Nat, q ≠ w → M1 q = M q) : WlX G w r (if i = 1 then x else n) (if i = 3 then x else d) (if i = 4 then x else sa) (if i = 5 then x else br) U F C M1 := by
  obtain ⟨h1, h2, h3, h4⟩ := h
  refine ⟨?_, h2.kept (o _ (by omega)), h3.kept (o _ (by omega)), fun j hj => ?_⟩
  · rw [e]
    rcases hi with rfl | rfl | rfl | rfl <;> rfl
  · exact (h4 j hj).kept (o _ (by omega)) (o _ (by omega))
theorem WlX.setU {G : zG} {w n d sa br : Nat} {r : Nat → Nat} {U U2 : Nat → Nat} {F C : Nat → Nat → Nat} {M M1 : Mm} (h : WlX G w r n d sa br U F C M) (hr : rOk r) (e : zArr G 0 M1 (w + 26) 10 (fun x => nI (U2 x))) (o : ∀ q : Nat, q ≠ w + 26 → M1 q = M q) : WlX G w r n d sa br U2 F C M1 := by
  obtain ⟨h1, h2, h3, h4⟩ := h
  refine ⟨by rw [o w (by omega)]; exact h1, h2.kept (o _ (by omega)), e, fun j hj => ?_⟩
  have := hr.1 j hj
  exact (h4 j hj).kept (o _ (by omega)) (o _ (by omega))
def upF (F : Nat → Nat → Nat) (j : Nat) (f : Nat → Nat) : Nat → Nat → Nat := fun i => if i = j then f else F i
theorem upF_self (F : Nat → Nat → Nat) (j : Nat) (f : Nat → Nat) : upF F j f j = f := by simp [upF]
theorem upF_ne (F : Nat → Nat → Nat) {i j : Nat} (f : Nat → Nat) (h : i ≠ j) : upF F j f i = F i := by simp [upF, h]
theorem WlX.setP {G : zG} {w n d sa br j : Nat} {r : Nat → Nat} {U : Nat → Nat} {F C : Nat → Nat → Nat} {f g : Nat → Nat} {M M1 : Mm} (h : WlX G w r n d sa br U F C M) (hr : rOk r) (hj : j < 12) (e : Pst G (w + 2 + 2 * r j) f g M1) (o : ∀ q : Nat, q ≠ w + 2 + 2 * r j → q ≠ w + 2 + 2 * r j + 1 → M1 q = M q) : WlX G w r n d sa br U (upF F j f) (upF C j g) M1 := by
  obtain ⟨h1, h2, h3, h4⟩ := h
  have hjr := hr.1 j hj
  refine ⟨by rw [o w (by omega) (by omega)]; exact h1, h2.kept (o _ (by omega) (by omega)), h3.kept (o _ (by omega) (by omega)), fun i hi => ?_⟩
  by_cases hij : i = j
  · subst hij
    rw [upF_self, upF_self]; exact e
  · have hne : r i ≠ r j := fun q => hij (hr.2 i j hi hj q)
    have := hr.1 i hi
    rw [upF_ne _ _ hij, upF_ne _ _ hij]
    exact (h4 i hi).kept (o _ (by omega) (by omega)) (o _ (by omega) (by omega))
def pasteF (x y wd ht p : Nat) : Nat → Nat
  | 0 => x
  | 1 => y
  | 2 => wd
  | 3 => ht
  | 4 => p
  | _ => 0
def pasteV (v : Wv) (x y wd ht p q : Nat) : Wv := fun i =>
  if i = 0 then v 0 + 1 else if 14 + 7 * v 0 ≤ i ∧ i < 21 + 7 * v 0 then pasteF x y wd ht p (i - (14 + 7 * v 0)) else if 98 + 60 * v 0 ≤ i ∧ i < 158 + 60 * v 0 then (if liesN (pasteF x y wd ht p) ((i - (98 + 60 * v 0)) % 10) ((i - (98 + 60 * v 0)) / 10) = true then q else 0) else v i
theorem pasteV_s (v : Wv) (x y wd ht p q : Nat) {i : Nat} (h0 : 0 < i) (h : i < 14) : pasteV v x y wd ht p q i = v i := by
  unfold pasteV
  rw [if_neg (by omega), if_neg (by omega), if_neg (by omega)]
theorem pasteV_p (v : Wv) (x y wd ht p q : Nat) {j k : Nat} (hj : j ≤ v 0) (hv : v 0 < 12) (hk : k < 7) : pv (pasteV v x y wd ht p q) j k = if j = v 0 then pasteF x y wd ht p k else pv v j k := by
  unfold pv pasteV
  rw [if_neg (by omega)]
  by_cases h : j = v 0
  · subst h
    rw [if_pos (by omega), if_pos rfl, Nat.add_sub_cancel_left]
  · rw [if_neg (by omega), if_neg (by omega), if_neg h]
theorem pasteV_c (v : Wv) (x y wd ht p q : Nat) {j c : Nat} (hj : j ≤ v 0) (hv : v 0 < 12) (hc : c < 60) : cv (pasteV v x y wd ht p q) j c = if j = v 0 then (if liesN (pasteF x y wd ht p) (c % 10) (c / 10) = true then q else 0) else cv v j c := by
  unfold cv pasteV
  rw [if_neg (by omega), if_neg (by omega)]
  by_cases h : j = v 0
  · subst h
    rw [if_pos (by omega), if_pos rfl, Nat.add_sub_cancel_left]
  · rw [if_neg (by omega), if_neg h]
def tearV (v : Wv) (p : Nat) : Wv := fun i =>
  if i = 0 then v 0 - 1 else if 14 + 7 * p ≤ i ∧ i < 14 + 7 * (v 0 - 1) then v (i + 7) else if 14 + 7 * (v 0 - 1) ≤ i ∧ i < 14 + 7 * v 0 then 0 else if 98 + 60 * p ≤ i ∧ i < 98 + 60 * (v 0 - 1) then v (i + 60) else if 98 + 60 * (v 0 - 1) ≤ i ∧ i < 98 + 60 * v 0 then 0 else v i
theorem tearV_0 (v : Wv) (p : Nat) : tearV v p 0 = v 0 - 1 := rfl
theorem tearV_s (v : Wv) (p : Nat) {i : Nat} (hp : p < v 0) (h0 : 0 < i) (h : i < 14) : tearV v p i = v i := by
  unfold tearV
  rw [if_neg (by omega), if_neg (by omega), if_neg (by omega), if_neg (by omega), if_neg (by omega)]
theorem tearV_p (v : Wv) {p j k : Nat} (hp : p < v 0) (hv : v 0 ≤ 12) (hj : j + 1 < v 0) (hk : k < 7) : pv (tearV v p) j k = if p ≤ j then pv v (j + 1) k else pv v j k := by
  unfold pv tearV
  rw [if_neg (by omega)]
  by_cases h : p ≤ j
  · rw [if_pos (by omega), if_pos h]
    congr 1
    omega
  · rw [if_neg (by omega), if_neg (by omega), if_neg (by omega), if_neg (by omega), if_neg h]
theorem tearV_c (v : Wv) {p j c : Nat} (hp : p < v 0) (hv : v 0 ≤ 12) (hj : j + 1 < v 0) (hc : c < 60) : cv (tearV v p) j c = if p ≤ j then cv v (j + 1) c else cv v j c := by
  unfold cv tearV
  rw [if_neg (by omega), if_neg (by omega), if_neg (by omega)]
  by_cases h : p ≤ j
  · rw [if_pos (by omega), if_pos h]
    congr 1
    omega
  · rw [if_neg (by omega), if_neg (by omega), if_neg h]
theorem WlR.ext {G : zG} {w : Nat} {r : Nat → Nat} {v v2 : Wv} {M : Mm} (h : WlR G w r v M) (hn : v 0 ≤ 12) (e : ∀ i, i < 818 → v i = v2 i) : WlR G w r v2 M := by
  obtain ⟨h1, h2, h3, h4, h5⟩ := h
  refine ⟨by rw [h1, e 0 (by decide), e 1 (by decide), e 2 (by decide), e 3 (by decide)], h2, h3.to fun x hx => congrArg nI (e (4 + x) (by omega)), h4, fun j hj => ?_⟩
  rw [← e 0 (by decide)] at hj
  exact (h5 j hj).to (fun k hk => e _ (by omega)) (fun c hc => e _ (by omega))
/-- the references of a wall while a poster is taken down, those below k moved -/
def tdR (r : Nat → Nat) (p k : Nat) : Nat → Nat := fun i => if p ≤ i ∧ i + 1 < k then r (i + 1) else r i
def tdE (r : Nat → Nat) (p n : Nat) : Nat → Nat := fun i => if i = n - 1 then r p else tdR r p n i
theorem tdE_ok {r : Nat → Nat} {p n : Nat} (hr : rOk r) (hp : p < n) (hn : n ≤ 12) : rOk (tdE r p n) := by
  have key : ∀ i, i < 12 → ∃ i', i' < 12 ∧ tdE r p n i = r i' ∧ i' = (if i = n - 1 then p else if p ≤ i ∧ i + 1 < n then i + 1 else i) := by
    intro i hi
    unfold tdE tdR
    by_cases h1 : i = n - 1
    · rw [if_pos h1, if_pos h1]; exact ⟨p, by omega, rfl, rfl⟩
    · rw [if_neg h1, if_neg h1]
      by_cases h2 : p ≤ i ∧ i + 1 < n
      · rw [if_pos h2, if_pos h2]; exact ⟨i + 1, by omega, rfl, rfl⟩
      · rw [if_neg h2, if_neg h2]; exact ⟨i, hi, rfl, rfl⟩
  refine ⟨fun j hj => ?_, fun i j hi hj h => ?_⟩
  · obtain ⟨i', h1, h2, -⟩ := key j hj
    rw [h2]; exact hr.1 i' h1
  · obtain ⟨i', h1, h2, h3⟩ := key i hi
    obtain ⟨j', h4, h5, h6⟩ := key j hj
    rw [h2, h5] at h
    have h7 := hr.2 i' j' h1 h4 h
    rw [h3, h6] at h7
    split at h7 <;> split at h7 <;> (try split at h7) <;> (try split at h7) <;> omega

set_option maxHeartbeats 4000000 in
set_option maxRecDepth 100000 in
theorem c_X4_copyFrom (l : Launch) (G : zG) (B0 : Nat) (M : Mm) (w : Nat) (r : Nat → Nat) (v : Wv) (hW : WlR G w r v M) (hr : rOk r) (hn : v 0 ≤ 12) (hBw : B0 ≤ w) (w2 : Nat) (r2 : Nat → Nat) (v2 : Wv) (hW2 : WlR G w2 r2 v2 M) (hr2 : rOk r2) (hv2 : wOk v2) (hd : w + 27 ≤ w2 ∨ w2 + 27 ≤ w) : zMet l yX4_copyFrom cX4_copyFrom 3 none 3 0 0 G B0 M [.ref w, .ref w2] none (fun M1 => WlR G w r (v2) M1 ∧ ∀ q, (q < w ∨ w + 27 ≤ q) → M1 q = M q) := by
  refine z_met RX4 [(0, .ref w), (1, .ref w2)] (by decide) rfl (Nat.le_of_ble_eq_true rfl) rfl ?_
  intro pg ev s m below meth cd ls hE hin hB0 hH hl
  have hx := hE.1
  have hb := hE.2.1
  have hn2 := hv2.1
  obtain ⟨Fa, Ca, hX, -⟩ := hW.toX hn
  have hF : ∀ q, (q < w ∨ w + 27 ≤ q) → M q = M q := fun _ _ => rfl
  refine z_gen B0 (fun H locs hH hS => ?_) hH
  refine lv_aload_n hx hb dX4_copyFrom_0 rfl (lv_at hl 0 rfl) ?_
  refine lv_aload_n hx hb dX4_copyFrom_1 rfl (lv_at hl 1 rfl) ?_
  refine z_get (T := TX4) (v := .int (nI (v2 0))) hE hH hW2.1 rfl uw_X4 1 (by decide) fkX4_22 rfl dX4_copyFrom_2 ?_
  refine z_put (T := TX4) hE hH hS hX.1 rfl uw_X4 tyX4 tyX4_ok nmX4 1 (by decide) fkX4_22 rfl rfl rfl (Nat.le_of_ble_eq_true rfl) (by omega) dX4_copyFrom_5 (fun H locs M3 hH hS e1 o2 => ?_)
  have hX4 : WlX G w r (v2 0) (v 1) (v 2) (v 3) (sv v) Fa Ca M3 := WlX.setO (i := 1) hX hr (by decide) e1 o2
  have hF5 := fun q hq => (o2 q (by omega)).trans (hF q hq)
  have hO6 := WlR.kept hr2 hv2.1 hW2 (fun q h1 h2 => o2 q (by omega))
  refine n_iconst hx hb 0 dX4_copyFrom_8 (by decide) ?_
  refine lv_istore_n (lv' := [(2, .int (nI 0)), (0, .ref w), (1, .ref w2)]) hx hb dX4_copyFrom_9 rfl hl (by decide) rfl (fun ls hl => ?_)
  have L10 : ∀ (dd : Nat) (k : Nat) (M1 : Mm) (F1 : Nat → Nat → Nat) (C1 : Nat → Nat → Nat), v2 0 < k + dd → (k ≤ v2 0) → (WlX G w r (v2 0) (v 1) (v 2) (v 3) (sv v) F1 C1 M1) → (WlR G w2 r2 v2 M1) → (∀ q, (q < w ∨ w + 27 ≤ q) → M1 q = M q) → (∀ j, j < k → F1 j = pv v2 j ∧ C1 j = cv v2 j) → ∀ (H : Heap) (locs : List Loc), zH G M1 H → zS 0 B0 s.heap H locs → ∀ (ls : Array Slot), lv_has ls 3 [(0, .ref w), (1, .ref w2), (2, .int (nI k))] → zW pg l ev 3 0 0 s m [.ref w, .ref w2] below meth cd H locs 0 0 G B0 none (fun M1 => WlR G w r (v2) M1 ∧ ∀ q, (q < w ∨ w + 27 ≤ q) → M1 q = M q) (F0 m 10 ls []) := by
    intro dd
    induction dd with
    | zero =>
      intro k M1 F1 C1 hdd hk hX1 hO1 hF1 hk1
      exact absurd hdd (by omega)
    | succ dd ih =>
      intro k M1 F1 C1 hdd hk hX1 hO1 hF1 hk1 H locs hH hS ls hl
      refine lv_iload_n hx hb dX4_copyFrom_10 rfl (lv_at hl 2 rfl) ?_
      refine lv_aload_n hx hb dX4_copyFrom_11 rfl (lv_at hl 0 rfl) ?_
      refine z_get (T := TX4) (v := .int (nI (v2 0))) hE hH hX1.1 rfl uw_X4 1 (by decide) fkX4_22 rfl dX4_copyFrom_12 ?_
      refine n_cmp_ge (tgt := 39) hx hb (by omega) (by omega) dX4_copyFrom_15 (by decide) (fun h7 => ?_) (fun h7 => ?_)
      · refine lv_aload_n hx hb dX4_copyFrom_39 rfl (lv_at hl 1 rfl) ?_
        refine z_get (T := TX4) (v := .ref (w2 + 26)) hE hH hO1.1 rfl uw_X4 2 (by decide) fkX4_18 rfl dX4_copyFrom_40 ?_
        refine n_iconst hx hb 0 dX4_copyFrom_43 (by decide) ?_
        refine lv_aload_n hx hb dX4_copyFrom_44 rfl (lv_at hl 0 rfl) ?_
        refine z_get (T := TX4) (v := .ref (w + 26)) hE hH hX1.1 rfl uw_X4 2 (by decide) fkX4_18 rfl dX4_copyFrom_45 ?_
        refine n_iconst hx hb 0 dX4_copyFrom_48 (by decide) ?_
        refine n_bipush hx hb 10 dX4_copyFrom_49 (by decide) ?_
        refine z_copy (rest := []) hE hH hS hl mkX4_30 hO1.2.2.1 hX1.2.2.1 (by decide) (by omega) ⟨Nat.le_of_ble_eq_true rfl, Nat.le_of_ble_eq_true rfl⟩ dX4_copyFrom_51 (fun H locs M8 hH hS e9 o10 => ?_)
        have hX11 := WlX.setU hX1 hr e9 o10
        have hF12 := fun q hq => (o10 q (by omega)).trans (hF1 q hq)
        have hO13 := WlR.kept hr2 hv2.1 hO1 (fun q h1 h2 => o10 q (by omega))
        refine lv_aload_n hx hb dX4_copyFrom_54 rfl (lv_at hl 0 rfl) ?_
        refine lv_aload_n hx hb dX4_copyFrom_55 rfl (lv_at hl 1 rfl) ?_
        refine z_get (T := TX4) (v := .int (nI (v2 1))) hE hH hO13.1 rfl uw_X4 3 (by decide) fkX4_36 rfl dX4_copyFrom_56 ?_
        refine z_put (T := TX4) hE hH hS hX11.1 rfl uw_X4 tyX4 tyX4_ok nmX4 3 (by decide) fkX4_36 rfl rfl rfl (Nat.le_of_ble_eq_true rfl) (by omega) dX4_copyFrom_59 (fun H locs M16 hH hS e14 o15 => ?_)
        have hX17 : WlX G w r (v2 0) (v2 1) (v 2) (v 3) (sv v2) F1 C1 M16 := WlX.setO (i := 3) hX11 hr (by decide) e14 o15
        have hF18 := fun q hq => (o15 q (by omega)).trans (hF12 q hq)
        have hO19 := WlR.kept hr2 hv2.1 hO13 (fun q h1 h2 => o15 q (by omega))
        refine lv_aload_n hx hb dX4_copyFrom_62 rfl (lv_at hl 0 rfl) ?_
        refine lv_aload_n hx hb dX4_copyFrom_63 rfl (lv_at hl 1 rfl) ?_
        refine z_get (T := TX4) (v := .int (nI (v2 2))) hE hH hO19.1 rfl uw_X4 4 (by decide) fkX4_39 rfl dX4_copyFrom_64 ?_
        refine z_put (T := TX4) hE hH hS hX17.1 rfl uw_X4 tyX4 tyX4_ok nmX4 4 (by decide) fkX4_39 rfl rfl rfl (Nat.le_of_ble_eq_true rfl) (by omega) dX4_copyFrom_67 (fun H locs M22 hH hS e20 o21 => ?_)
        have hX23 : WlX G w r (v2 0) (v2 1) (v2 2) (v 3) (sv v2) F1 C1 M22 := WlX.setO (i := 4) hX17 hr (by decide) e20 o21
        have hF24 := fun q hq => (o21 q (by omega)).trans (hF18 q hq)
        have hO25 := WlR.kept hr2 hv2.1 hO19 (fun q h1 h2 => o21 q (by omega))
        refine lv_aload_n hx hb dX4_copyFrom_70 rfl (lv_at hl 0 rfl) ?_
        refine lv_aload_n hx hb dX4_copyFrom_71 rfl (lv_at hl 1 rfl) ?_
        refine z_get (T := TX4) (v := .int (nI (v2 3))) hE hH hO25.1 rfl uw_X4 5 (by decide) fkX4_42 rfl dX4_copyFrom_72 ?_
        refine z_put (T := TX4) hE hH hS hX23.1 rfl uw_X4 tyX4 tyX4_ok nmX4 5 (by decide) fkX4_42 rfl rfl rfl (Nat.le_of_ble_eq_true rfl) (by omega) dX4_copyFrom_75 (fun H locs M28 hH hS e26 o27 => ?_)
        have hX29 : WlX G w r (v2 0) (v2 1) (v2 2) (v2 3) (sv v2) F1 C1 M28 := WlX.setO (i := 5) hX23 hr (by decide) e26 o27
        have hF30 := fun q hq => (o27 q (by omega)).trans (hF24 q hq)
        have hO31 := WlR.kept hr2 hv2.1 hO25 (fun q h1 h2 => o27 q (by omega))
        exact z_vret hE hH hS ⟨WlX.toR hX29 v2 hn2 rfl rfl rfl rfl (fun _ _ => rfl) (fun j hj => by have hh := hk1 j (by omega); rw [hh.1, hh.2]; exact ⟨fun _ _ => rfl, fun _ _ => rfl⟩), hF30⟩ dX4_copyFrom_78
      · refine lv_aload_n hx hb dX4_copyFrom_18 rfl (lv_at hl 0 rfl) ?_
        refine z_get (T := TX4) (v := .ref (w + 1)) hE hH hX1.1 rfl uw_X4 0 (by decide) fkX4_11 rfl dX4_copyFrom_19 ?_
        refine lv_iload_n hx hb dX4_copyFrom_22 rfl (lv_at hl 2 rfl) ?_
        refine z_aald hE hH hX1.2.1 rfl (k := k) (by omega) (by decide) dX4_copyFrom_23 ?_
        refine lv_aload_n hx hb dX4_copyFrom_24 rfl (lv_at hl 1 rfl) ?_
        refine z_get (T := TX4) (v := .ref (w2 + 1)) hE hH hO1.1 rfl uw_X4 0 (by decide) fkX4_11 rfl dX4_copyFrom_25 ?_
        refine lv_iload_n hx hb dX4_copyFrom_28 rfl (lv_at hl 2 rfl) ?_
        refine z_aald hE hH hO1.2.1 rfl (k := k) (by omega) (by decide) dX4_copyFrom_29 ?_
        have q32 := hr.1 k (by omega)
        have q33 := hr2.1 k (by omega)
        refine z_callV (rest := []) (st2 := []) hE hH hS hB0 hl ca_X3_copyFrom mkX4_26 (c_X3_copyFrom l G B0 M1 (w + 2 + 2 * r k) (F1 k) (C1 k) (hX1.2.2.2 k (by omega)) (by omega) (w2 + 2 + 2 * r2 k) (pv v2 k) (cv v2 k) (hO1.2.2.2.2 k (by omega)) (by omega)) (hX1.2.2.2 k (by omega)).1 rfl rfl rfl rfl rfl ⟨Nat.le_of_ble_eq_true rfl, Nat.le_of_ble_eq_true rfl⟩ (Nat.le_of_ble_eq_true rfl) ⟨Nat.le_refl _, Nat.le_refl _⟩ dX4_copyFrom_30 (fun H locs M34 hH hp hS => ?_)
        obtain ⟨hP35, hG36⟩ := hp
        have hX37 := WlX.setP hX1 hr (by omega) hP35 hG36
        have hO38 := WlR.kept hr2 hv2.1 hO1 (fun q h1 h2 => hG36 q (by omega) (by omega))
        have hF39 := fun q hq => (hG36 q (by omega) (by omega)).trans (hF1 q hq)
        refine lv_iinc (v := (nI (k + 1))) (lv' := [(2, .int (nI (k + 1))), (0, .ref w), (1, .ref w2)]) hx hb dX4_copyFrom_33 hl (k := 2) rfl (nI_inc _) (by decide) rfl (fun ls hl => ?_)
        refine lv_goto (tgt := 10) hx hb dX4_copyFrom_36 (by decide) ?_
        exact ih  (k + 1) M34 (upF F1 k (pv v2 k)) (upF C1 k (cv v2 k)) (by omega) (by omega) hX37 hO38 hF39 (fun j hj => by by_cases hjk : j = k; (· subst hjk; exact ⟨upF_self _ _ _, upF_self _ _ _⟩); (· rw [upF_ne _ _ hjk, upF_ne _ _ hjk]; exact hk1 j (by omega))) _ _ hH hS _ (lv_sub hl [1, 2, 0] rfl)
  exact L10 (v2 0 + 1) 0 M3 Fa Ca (by omega) (by omega) hX4 hO6 hF5 (fun j hj => absurd hj (Nat.not_lt_zero j)) _ _ hH hS _ (lv_sub hl [1, 2, 0] rfl)

theorem paste_fin {v : Wv} {Fa Ca : Nat → Nat → Nat} (hlt : v 0 < 12) (hFC : ∀ j, j < v 0 → Fa j = pv v j ∧ Ca j = cv v j) (x y wd ht pr vn : Nat) (F1 F2 C1 C2 : Nat → Nat → Nat)
    (e1 : F1 = upF Fa (v 0) (fset (fset (fset (fset (Fa (v 0)) 0 x) 1 y) 2 wd) 3 ht)) (e2 : C1 = upF Ca (v 0) (Ca (v 0)))
    (e3 : F2 = upF F1 (v 0) (fset (fset (fset (F1 (v 0)) 4 pr) 5 0) 6 0)) (e4 : C2 = upF C1 (v 0) (beginG (F1 (v 0)) vn (C1 (v 0)) 60)) :
    ∀ j, j < pasteV v x y wd ht pr vn 0 → (∀ k, k < 7 → F2 j k = pv (pasteV v x y wd ht pr vn) j k) ∧ ∀ c, c < 60 → C2 j c = cv (pasteV v x y wd ht pr vn) j c := by
  intro j hj
  have hj' : j < v 0 + 1 := hj
  subst e1; subst e2; subst e3; subst e4
  refine ⟨fun k hk => ?_, fun c hc => ?_⟩
  · rw [pasteV_p v _ _ _ _ _ _ (by omega) hlt hk]
    by_cases h : j = v 0
    · rw [if_pos h, h, upF_self, upF_self]
      rcases (show k = 0 ∨ k = 1 ∨ k = 2 ∨ k = 3 ∨ k = 4 ∨ k = 5 ∨ k = 6 by omega) with rfl | rfl | rfl | rfl | rfl | rfl | rfl <;> rfl
    · rw [if_neg h, upF_ne _ _ h, upF_ne _ _ h, (hFC j (by omega)).1]
  · rw [pasteV_c v _ _ _ _ _ _ (by omega) hlt hc]
    by_cases h : j = v 0
    · rw [if_pos h, h, upF_self, beginG_at, if_pos hc, upF_self]
      have : liesN (fset (fset (fset (fset (Fa (v 0)) 0 x) 1 y) 2 wd) 3 ht) (c % 10) (c / 10) = liesN (pasteF x y wd ht pr) (c % 10) (c / 10) := rfl
      rw [this]
    · rw [if_neg h, upF_ne _ _ h, upF_ne _ _ h, (hFC j (by omega)).2]

set_option maxHeartbeats 4000000 in
set_option maxRecDepth 100000 in
theorem c_X4_addOnTop (l : Launch) (G : zG) (B0 : Nat) (M : Mm) (w : Nat) (r : Nat → Nat) (v : Wv) (hW : WlR G w r v M) (hr : rOk r) (hv : wOk v) (hBw : B0 ≤ w) (hlt : v 0 < 12) (x y wd ht pr vn : Nat) (hxw : x + wd ≤ 10) (hyh : y + ht ≤ 6) : zMet l yX4_addOnTop cX4_addOnTop 8 (some .int) 3 0 0 G B0 M [.ref w, .int (nI x), .int (nI y), .int (nI wd), .int (nI ht), .int (nI pr), .int (nI vn)] (some (.int (nI (v 0)))) (fun M1 => WlR G w r (pasteV v x y wd ht pr vn) M1 ∧ ∀ q, (q < w ∨ w + 27 ≤ q) → M1 q = M q) := by
  refine z_met RX4 [(0, .ref w), (1, .int (nI x)), (2, .int (nI y)), (3, .int (nI wd)), (4, .int (nI ht)), (5, .int (nI pr)), (6, .int (nI vn))] (by decide) rfl (Nat.le_of_ble_eq_true rfl) rfl ?_
  intro pg ev s m below meth cd ls hE hin hB0 hH hl
  have hx := hE.1
  have hb := hE.2.1
  have hn := hv.1
  obtain ⟨Fa, Ca, hX, hFC⟩ := hW.toX hn
  have hF : ∀ q, (q < w ∨ w + 27 ≤ q) → M q = M q := fun _ _ => rfl
  refine z_gen B0 (fun H locs hH hS => ?_) hH
  refine lv_aload_n hx hb dX4_addOnTop_0 rfl (lv_at hl 0 rfl) ?_
  refine z_get (T := TX4) (v := .int (nI (v 0))) hE hH hX.1 rfl uw_X4 1 (by decide) fkX4_22 rfl dX4_addOnTop_1 ?_
  refine n_bipush hx hb 12 dX4_addOnTop_4 (by decide) ?_
  refine n_cmp_lt (tgt := 12) hx hb (by omega) (by decide) dX4_addOnTop_6 (by decide) (fun h1 => ?_) (fun h1 => ?_)
  · have hrn := hr.1 (v 0) (by omega)
    refine lv_aload_n hx hb dX4_addOnTop_12 rfl (lv_at hl 0 rfl) ?_
    refine z_get (T := TX4) (v := .ref (w + 1)) hE hH hX.1 rfl uw_X4 0 (by decide) fkX4_11 rfl dX4_addOnTop_13 ?_
    refine lv_aload_n hx hb dX4_addOnTop_16 rfl (lv_at hl 0 rfl) ?_
    refine z_get (T := TX4) (v := .int (nI (v 0))) hE hH hX.1 rfl uw_X4 1 (by decide) fkX4_22 rfl dX4_addOnTop_17 ?_
    refine z_aald hE hH hX.2.1 rfl (k := (v 0)) (by omega) (by decide) dX4_addOnTop_20 ?_
    refine lv_astore (lv' := [(7, .ref (w + 2 + 2 * r (v 0))), (0, .ref w), (1, .int (nI x)), (2, .int (nI y)), (3, .int (nI wd)), (4, .int (nI ht)), (5, .int (nI pr)), (6, .int (nI vn))]) hx hb dX4_addOnTop_21 hl (by decide) rfl (fun ls hl => ?_)
    refine lv_aload hx hb dX4_addOnTop_23 (lv_at hl 0 rfl) ?_
    refine lv_iload_n hx hb dX4_addOnTop_25 rfl (lv_at hl 2 rfl) ?_
    refine lv_iload_n hx hb dX4_addOnTop_26 rfl (lv_at hl 3 rfl) ?_
    refine lv_iload_n hx hb dX4_addOnTop_27 rfl (lv_at hl 4 rfl) ?_
    refine lv_iload hx hb dX4_addOnTop_28 (lv_at hl 5 rfl) ?_
    refine z_callV (rest := []) (st2 := []) hE hH hS hB0 hl ca_X3_cover mkX4_45 (c_X3_cover l G B0 M (w + 2 + 2 * r (v 0)) (Fa (v 0)) (Ca (v 0)) (hX.2.2.2 (v 0) (by omega)) (by omega) x y wd ht) (hX.2.2.2 (v 0) (by omega)).1 rfl rfl rfl rfl rfl ⟨Nat.le_of_ble_eq_true rfl, Nat.le_of_ble_eq_true rfl⟩ (Nat.le_of_ble_eq_true rfl) ⟨Nat.le_refl _, Nat.le_refl _⟩ dX4_addOnTop_30 (fun H locs M2 hH hp hS => ?_)
    obtain ⟨hP3, hG4⟩ := hp
    have hX5 := WlX.setP hX hr (by omega) hP3 hG4
    have hF6 := fun q hq => (hG4 q (by omega) (by omega)).trans (hF q hq)
    refine lv_aload hx hb dX4_addOnTop_33 (lv_at hl 0 rfl) ?_
    refine lv_iload hx hb dX4_addOnTop_35 (lv_at hl 6 rfl) ?_
    refine lv_iload hx hb dX4_addOnTop_37 (lv_at hl 7 rfl) ?_
    refine z_callV (rest := []) (st2 := []) hE hH hS hB0 hl ca_X3_begin mkX4_49 (c_X3_begin l G B0 M2 (w + 2 + 2 * r (v 0)) ((upF Fa (v 0) (fset (fset (fset (fset (Fa (v 0)) 0 x) 1 y) 2 wd) 3 ht)) (v 0)) ((upF Ca (v 0) (Ca (v 0))) (v 0)) (hX5.2.2.2 (v 0) (by omega)) (by omega) (by simp [upF, fset]; omega) (by simp [upF, fset]; omega) pr vn) (hX5.2.2.2 (v 0) (by omega)).1 rfl rfl rfl rfl rfl ⟨Nat.le_of_ble_eq_true rfl, Nat.le_of_ble_eq_true rfl⟩ (Nat.le_of_ble_eq_true rfl) ⟨Nat.le_refl _, Nat.le_refl _⟩ dX4_addOnTop_39 (fun H locs M7 hH hp hS => ?_)
    obtain ⟨hP8, hG9⟩ := hp
    have hX10 := WlX.setP hX5 hr (by omega) hP8 hG9
    have hF11 := fun q hq => (hG9 q (by omega) (by omega)).trans (hF6 q hq)
    refine lv_aload_n hx hb dX4_addOnTop_42 rfl (lv_at hl 1 rfl) ?_
    refine lv_dup hx hb dX4_addOnTop_43 rfl ?_
    refine z_get (T := TX4) (v := .int (nI (v 0))) hE hH hX10.1 rfl uw_X4 1 (by decide) fkX4_22 rfl dX4_addOnTop_44 ?_
    refine n_iconst hx hb 1 dX4_addOnTop_47 (by decide) ?_
    refine n_iadd hx hb dX4_addOnTop_48 ?_
    refine z_put (T := TX4) hE hH hS hX10.1 rfl uw_X4 tyX4 tyX4_ok nmX4 1 (by decide) fkX4_22 rfl rfl rfl (Nat.le_of_ble_eq_true rfl) (by omega) dX4_addOnTop_49 (fun H locs M14 hH hS e12 o13 => ?_)
    have hX15 : WlX G w r ((v 0) + 1) (v 1) (v 2) (v 3) (sv v) (upF (upF Fa (v 0) (fset (fset (fset (fset (Fa (v 0)) 0 x) 1 y) 2 wd) 3 ht)) (v 0) (fset (fset (fset ((upF Fa (v 0) (fset (fset (fset (fset (Fa (v 0)) 0 x) 1 y) 2 wd) 3 ht)) (v 0)) 4 pr) 5 0) 6 0)) (upF (upF Ca (v 0) (Ca (v 0))) (v 0) (beginG ((upF Fa (v 0) (fset (fset (fset (fset (Fa (v 0)) 0 x) 1 y) 2 wd) 3 ht)) (v 0)) vn ((upF Ca (v 0) (Ca (v 0))) (v 0)) 60)) M14 := WlX.setO (i := 1) hX10 hr (by decide) e12 o13
    have hF16 := fun q hq => (o13 q (by omega)).trans (hF11 q hq)
    refine lv_aload_n hx hb dX4_addOnTop_52 rfl (lv_at hl 1 rfl) ?_
    refine z_get (T := TX4) (v := .int (nI ((v 0) + 1))) hE hH hX15.1 rfl uw_X4 1 (by decide) fkX4_22 rfl dX4_addOnTop_53 ?_
    refine n_iconst hx hb 1 dX4_addOnTop_56 (by decide) ?_
    refine n_isub hx hb (by omega) dX4_addOnTop_57 ?_
    exact z_iret hE hH hS rfl ⟨WlX.toR hX15 (pasteV v x y wd ht pr vn) (show v 0 + 1 ≤ 12 by omega) rfl (pasteV_s v _ _ _ _ _ _ (by decide) (by decide)).symm (pasteV_s v _ _ _ _ _ _ (by decide) (by decide)).symm (pasteV_s v _ _ _ _ _ _ (by decide) (by decide)).symm (fun u hu => (pasteV_s v _ _ _ _ _ _ (by omega) (by omega)).symm) (paste_fin hlt hFC x y wd ht pr vn _ _ _ _ rfl rfl rfl rfl), hF16⟩ dX4_addOnTop_58
  · exfalso; omega

theorem z_aastR {p : Program} {l : Launch} {e : Env} {R : Room} {s : State} {m : MethodId} {args : Array Value} {below : List Frame} {meth : Method} {c : Code} {H : Heap} {locs : List Loc} {cells slots : Nat} {Q : State → Prop} {cc : ByteArray} {pc nL : Nat} {ls : Array Slot} {rest : List Value} {G : zG} {M : Mm} {a n B0 : Nat} {H0 : Heap} {own : String} {ret : Option FieldType} {N t ci : Nat} {rq : vw_C} {r : Nat → Nat} {vs : List Value} {b : Nat} (hE : zE p s m args meth c G own cc nL ret) (hH : zH G M H) (hS : zS n B0 H0 H locs) (hA : zRef G t M a N r) (ht : (zTy G)[t]? = some (G.2 t, .object rq.1)) (hb : M b = some (.inr (ci, vs))) (hc : vwCl[ci]? = some rq) {k : Nat} (hk : k < N) (hN : N < 2 ^ 31) (hB : B0 ≤ a) (hdg : decode cc pc = .ok (.aastore, 1))
    (kk : ∀ (H1 : Heap) (locs1 : List Loc) (M1 : Mm), zH G M1 H1 → zS n B0 H0 H1 locs1 → zRef G t M1 a N (fun i => if i = k then b else r i) → (∀ q : Nat, q ≠ a → M1 q = M q) → W p l e R s m args below meth c H1 locs1 cells slots Q (F0 m (pc + 1) ls rest)) : W p l e R s m args below meth c H locs cells slots Q (F0 m pc ls (.ref b :: .int (nI k) :: .ref a :: rest)) := by
  obtain ⟨h, h1, h2⟩ := hA
  refine z_aast hE hH hS h1 ht hb hc hk hN hB hdg fun H1 locs1 M1 a1 a2 a3 a4 => kk H1 locs1 M1 a1 a2 ⟨_, a3, fun i hi => ?_⟩ a4
  by_cases hq : i = k
  · simp [hq]
  · simp [hq, h2 i hi]
theorem tdR_0 (r : Nat → Nat) (p i : Nat) : tdR r p (p + 1) i = r i := by
  unfold tdR
  rw [if_neg (by omega)]
theorem tdR_k (r : Nat → Nat) (p k : Nat) : tdR r p k k = r k := by
  unfold tdR
  rw [if_neg (by omega)]
theorem tdR_step (r : Nat → Nat) {p k : Nat} (hpk : p < k) (w i : Nat) : (if i = k - 1 then w + 2 + 2 * tdR r p k k else w + 2 + 2 * tdR r p k i) = w + 2 + 2 * tdR r p (k + 1) i := by
  by_cases h : i = k - 1
  · rw [if_pos h, tdR_k]
    subst h
    unfold tdR
    rw [if_pos (by omega)]
    rw [Nat.sub_add_cancel (by omega)]
  · rw [if_neg h]
    unfold tdR
    by_cases h2 : p ≤ i ∧ i + 1 < k
    · rw [if_pos h2, if_pos (by omega)]
    · rw [if_neg h2, if_neg (by omega)]
def WlY (G : zG) (w : Nat) (r : Nat → Nat) (n d sa br : Nat) (U : Nat → Nat) (F C : Nat → Nat → Nat) (M : Mm) : Prop :=
  M w = some (.inr (4, [.ref (w + 1), .int (nI n), .ref (w + 26), .int (nI d), .int (nI sa), .int (nI br)])) ∧
  zArr G 0 M (w + 26) 10 (fun x => nI (U x)) ∧ ∀ j, j < 12 → Pst G (w + 2 + 2 * r j) (F j) (C j) M
theorem WlY.kept {G : zG} {w n d sa br : Nat} {r : Nat → Nat} {U : Nat → Nat} {F C : Nat → Nat → Nat} {M M1 : Mm} (h : WlY G w r n d sa br U F C M) (hr : rOk r) (o : ∀ q : Nat, q ≠ w + 1 → M1 q = M q) : WlY G w r n d sa br U F C M1 := by
  obtain ⟨h1, h2, h3⟩ := h
  exact ⟨by rw [o w (by omega)]; exact h1, h2.kept (o _ (by omega)), fun j hj => (h3 j hj).kept (o _ (by omega)) (o _ (by omega))⟩
theorem WlY.setN {G : zG} {w n d sa br x : Nat} {r : Nat → Nat} {U : Nat → Nat} {F C : Nat → Nat → Nat} {M M1 : Mm} (h : WlY G w r n d sa br U F C M) (e : M1 w = some (.inr (4, ([.ref (w + 1), .int (nI n), .ref (w + 26), .int (nI d), .int (nI sa), .int (nI br)] : List Value).set 1 (.int (nI x))))) (o : ∀ q : Nat, q ≠ w → M1 q = M q) : WlY G w r x d sa br U F C M1 := by
  obtain ⟨h1, h2, h3⟩ := h
  exact ⟨e, h2.kept (o _ (by omega)), fun j hj => (h3 j hj).kept (o _ (by omega)) (o _ (by omega))⟩
def tdI (p n i : Nat) : Nat := if i = n - 1 then p else if p ≤ i ∧ i + 1 < n then i + 1 else i
theorem tdE_I (r : Nat → Nat) (p n i : Nat) : tdE r p n i = r (tdI p n i) := by
  unfold tdE tdR tdI
  split
  · rfl
  · split <;> rfl
theorem td_fin {G : zG} {w p : Nat} {r : Nat → Nat} {v : Wv} {F C : Nat → Nat → Nat} {M : Mm} (hr : rOk r) (hn : v 0 ≤ 12) (hp : p < v 0) (hFC : ∀ j, j < v 0 → F j = pv v j ∧ C j = cv v j) (hY : WlY G w r (v 0 - 1) (v 1) (v 2) (v 3) (sv v) F C M) (hT : zRef G 1 M (w + 1) 12 (fun i => if i = v 0 - 1 then w + 2 + 2 * r p else w + 2 + 2 * tdR r p (v 0) i)) : Wl G w (tearV v p) M := by
  refine ⟨tdE r p (v 0), tdE_ok hr hp hn, ?_⟩
  have hX : WlX G w (tdE r p (v 0)) (v 0 - 1) (v 1) (v 2) (v 3) (sv v) (fun i => F (tdI p (v 0) i)) (fun i => C (tdI p (v 0) i)) M := by
    refine ⟨hY.1, hT.to fun i hi => ?_, hY.2.1, fun j hj => ?_⟩
    · unfold tdE
      by_cases h : i = v 0 - 1
      · rw [if_pos h, if_pos h]
      · rw [if_neg h, if_neg h]
    · rw [tdE_I]
      exact hY.2.2 _ (by unfold tdI; split <;> (try split) <;> omega)
  refine WlX.toR hX (tearV v p) (show v 0 - 1 ≤ 12 by omega) rfl (tearV_s v p hp (by decide) (by decide)).symm (tearV_s v p hp (by decide) (by decide)).symm (tearV_s v p hp (by decide) (by decide)).symm (fun x hx => (tearV_s v p hp (by omega) (by omega)).symm) fun j hj => ?_
  have hj' : j < v 0 - 1 := hj
  have hI : tdI p (v 0) j = if p ≤ j then j + 1 else j := by
    unfold tdI
    rw [if_neg (by omega)]
    by_cases h : p ≤ j
    · rw [if_pos (by omega), if_pos h]
    · rw [if_neg (by omega), if_neg h]
  have hlt : tdI p (v 0) j < v 0 := by rw [hI]; split <;> omega
  show (∀ k, k < 7 → F (tdI p (v 0) j) k = _) ∧ ∀ c, c < 60 → C (tdI p (v 0) j) c = _
  rw [(hFC _ hlt).1, (hFC _ hlt).2, hI]
  refine ⟨fun k hk => ?_, fun c hc => ?_⟩
  · rw [tearV_p v hp hn (by omega) hk]
    by_cases h : p ≤ j
    · rw [if_pos h, if_pos h]
    · rw [if_neg h, if_neg h]
  · rw [tearV_c v hp hn (by omega) hc]
    by_cases h : p ≤ j
    · rw [if_pos h, if_pos h]
    · rw [if_neg h, if_neg h]

set_option maxHeartbeats 4000000 in
set_option maxRecDepth 100000 in
theorem c_X4_takeDown (l : Launch) (G : zG) (B0 : Nat) (M : Mm) (w : Nat) (r : Nat → Nat) (v : Wv) (hW : WlR G w r v M) (hr : rOk r) (hv : wOk v) (hBw : B0 ≤ w) (p : Nat) (hp : p < v 0) : zMet l yX4_takeDown cX4_takeDown 4 none 1 0 0 G B0 M [.ref w, .int (nI p)] none (fun M1 => Wl G w (tearV v p) M1 ∧ ∀ q, (q < w ∨ w + 27 ≤ q) → M1 q = M q) := by
  refine z_met RX4 [(0, .ref w), (1, .int (nI p))] (by decide) rfl (Nat.le_of_ble_eq_true rfl) rfl ?_
  intro pg ev s m below meth cd ls hE hin hB0 hH hl
  have hx := hE.1
  have hb := hE.2.1
  have hn := hv.1
  obtain ⟨Fa, Ca, hX, hFC⟩ := hW.toX hn
  have hY : WlY G w r (v 0) (v 1) (v 2) (v 3) (sv v) Fa Ca M := ⟨hX.1, hX.2.2.1, hX.2.2.2⟩
  have hT : zRef G 1 M (w + 1) 12 (fun i => w + 2 + 2 * tdR r p (p + 1) i) := hX.2.1.to (fun i _ => by rw [tdR_0])
  have hF : ∀ q, (q < w ∨ w + 27 ≤ q) → M q = M q := fun _ _ => rfl
  refine z_gen B0 (fun H locs hH hS => ?_) hH
  refine lv_aload_n hx hb dX4_takeDown_0 rfl (lv_at hl 0 rfl) ?_
  refine z_get (T := TX4) (v := .ref (w + 1)) hE hH hY.1 rfl uw_X4 0 (by decide) fkX4_11 rfl dX4_takeDown_1 ?_
  refine lv_iload_n hx hb dX4_takeDown_4 rfl (lv_at hl 1 rfl) ?_
  refine z_aald hE hH hT rfl (k := p) (by omega) (by decide) dX4_takeDown_5 ?_
  refine lv_astore_n (lv' := [(2, .ref (w + 2 + 2 * tdR r p (p + 1) p)), (0, .ref w), (1, .int (nI p))]) hx hb dX4_takeDown_6 rfl hl (by decide) rfl (fun ls hl => ?_)
  refine lv_iload_n hx hb dX4_takeDown_7 rfl (lv_at hl 2 rfl) ?_
  refine n_iconst hx hb 1 dX4_takeDown_8 (by decide) ?_
  refine n_iadd hx hb dX4_takeDown_9 ?_
  refine lv_istore_n (lv' := [(3, .int (nI (p + 1))), (2, .ref (w + 2 + 2 * tdR r p (p + 1) p)), (0, .ref w), (1, .int (nI p))]) hx hb dX4_takeDown_10 rfl hl (by decide) rfl (fun ls hl => ?_)
  have L11 : ∀ (dd : Nat) (k : Nat) (M1 : Mm), v 0 < k + dd → (k ≤ v 0) → (p < k) → (WlY G w r (v 0) (v 1) (v 2) (v 3) (sv v) Fa Ca M1) → (zRef G 1 M1 (w + 1) 12 (fun i => w + 2 + 2 * tdR r p k i)) → (∀ q, (q < w ∨ w + 27 ≤ q) → M1 q = M q) → ∀ (H : Heap) (locs : List Loc), zH G M1 H → zS 0 B0 s.heap H locs → ∀ (ls : Array Slot), lv_has ls 4 [(0, .ref w), (1, .int (nI p)), (2, .ref (w + 2 + 2 * tdR r p (p + 1) p)), (3, .int (nI k))] → zW pg l ev 1 0 0 s m [.ref w, .int (nI p)] below meth cd H locs 0 0 G B0 none (fun M1 => Wl G w (tearV v p) M1 ∧ ∀ q, (q < w ∨ w + 27 ≤ q) → M1 q = M q) (F0 m 11 ls []) := by
    intro dd
    induction dd with
    | zero =>
      intro k M1 hdd hk hpk hY1 hT1 hF1
      exact absurd hdd (by omega)
    | succ dd ih =>
      intro k M1 hdd hk hpk hY1 hT1 hF1 H locs hH hS ls hl
      refine lv_iload_n hx hb dX4_takeDown_11 rfl (lv_at hl 3 rfl) ?_
      refine lv_aload_n hx hb dX4_takeDown_12 rfl (lv_at hl 0 rfl) ?_
      refine z_get (T := TX4) (v := .int (nI (v 0))) hE hH hY1.1 rfl uw_X4 1 (by decide) fkX4_22 rfl dX4_takeDown_13 ?_
      refine n_cmp_ge (tgt := 39) hx hb (by omega) (by omega) dX4_takeDown_16 (by decide) (fun h1 => ?_) (fun h1 => ?_)
      · refine lv_aload_n hx hb dX4_takeDown_39 rfl (lv_at hl 0 rfl) ?_
        refine lv_dup hx hb dX4_takeDown_40 rfl ?_
        refine z_get (T := TX4) (v := .int (nI (v 0))) hE hH hY1.1 rfl uw_X4 1 (by decide) fkX4_22 rfl dX4_takeDown_41 ?_
        refine n_iconst hx hb 1 dX4_takeDown_44 (by decide) ?_
        refine n_isub hx hb (by omega) dX4_takeDown_45 ?_
        refine z_put (T := TX4) hE hH hS hY1.1 rfl uw_X4 tyX4 tyX4_ok nmX4 1 (by decide) fkX4_22 rfl rfl rfl (Nat.le_of_ble_eq_true rfl) (by omega) dX4_takeDown_46 (fun H locs M4 hH hS e2 o3 => ?_)
        have hY5 := WlY.setN (x := (v 0) - 1) hY1 e2 o3
        have hT6 := hT1.kept (o3 _ (by omega))
        have hF7 := fun q hq => (o3 q (by omega)).trans (hF1 q hq)
        refine lv_aload_n hx hb dX4_takeDown_49 rfl (lv_at hl 0 rfl) ?_
        refine z_get (T := TX4) (v := .ref (w + 1)) hE hH hY5.1 rfl uw_X4 0 (by decide) fkX4_11 rfl dX4_takeDown_50 ?_
        refine lv_aload_n hx hb dX4_takeDown_53 rfl (lv_at hl 0 rfl) ?_
        refine z_get (T := TX4) (v := .int (nI ((v 0) - 1))) hE hH hY5.1 rfl uw_X4 1 (by decide) fkX4_22 rfl dX4_takeDown_54 ?_
        refine lv_aload_n hx hb dX4_takeDown_57 rfl (lv_at hl 2 rfl) ?_
        refine z_aastR hE hH hS hT6 rfl (by rw [tdR_0]; exact (hY5.2.2 p (by omega)).1) rfl (k := (v 0) - 1) (by omega) (by decide) (by omega) dX4_takeDown_58 (fun H locs M10 hH hS e8 o9 => ?_)
        have hY11 := WlY.kept hY5 hr o9
        have hT12 := e8
        have hF13 := fun q hq => (o9 q (by omega)).trans (hF7 q hq)
        exact z_vret hE hH hS ⟨by have hkk : k = v 0 := (by omega); subst hkk; exact td_fin hr hn hp hFC hY11 (hT12.to (fun i _ => by rw [tdR_0])), hF13⟩ dX4_takeDown_59
      · refine lv_aload_n hx hb dX4_takeDown_19 rfl (lv_at hl 0 rfl) ?_
        refine z_get (T := TX4) (v := .ref (w + 1)) hE hH hY1.1 rfl uw_X4 0 (by decide) fkX4_11 rfl dX4_takeDown_20 ?_
        refine lv_iload_n hx hb dX4_takeDown_23 rfl (lv_at hl 3 rfl) ?_
        refine n_iconst hx hb 1 dX4_takeDown_24 (by decide) ?_
        refine n_isub hx hb (by omega) dX4_takeDown_25 ?_
        refine lv_aload_n hx hb dX4_takeDown_26 rfl (lv_at hl 0 rfl) ?_
        refine z_get (T := TX4) (v := .ref (w + 1)) hE hH hY1.1 rfl uw_X4 0 (by decide) fkX4_11 rfl dX4_takeDown_27 ?_
        refine lv_iload_n hx hb dX4_takeDown_30 rfl (lv_at hl 3 rfl) ?_
        refine z_aald hE hH hT1 rfl (k := k) (by omega) (by decide) dX4_takeDown_31 ?_
        refine z_aastR hE hH hS hT1 rfl (by rw [tdR_k]; exact (hY1.2.2 k (by omega)).1) rfl (k := k - 1) (by omega) (by decide) (by omega) dX4_takeDown_32 (fun H locs M16 hH hS e14 o15 => ?_)
        have hY17 := WlY.kept hY1 hr o15
        have hT18 := zRef.to (g' := fun i => w + 2 + 2 * tdR r p (k + 1) i) e14 (fun i hi => tdR_step r (by omega) w i)
        have hF19 := fun q hq => (o15 q (by omega)).trans (hF1 q hq)
        refine lv_iinc (v := (nI (k + 1))) (lv' := [(3, .int (nI (k + 1))), (0, .ref w), (1, .int (nI p)), (2, .ref (w + 2 + 2 * tdR r p (p + 1) p))]) hx hb dX4_takeDown_33 hl (k := 3) rfl (nI_inc _) (by decide) rfl (fun ls hl => ?_)
        refine lv_goto (tgt := 11) hx hb dX4_takeDown_36 (by decide) ?_
        exact ih  (k + 1) M16 (by omega) (by omega) (by omega) hY17 hT18 hF19 _ _ hH hS _ (lv_sub hl [1, 2, 3, 0] rfl)
  exact L11 (v 0 + 1) (p + 1) M (by omega) (by omega) (by omega) hY hT hF _ _ hH hS _ (lv_sub hl [2, 3, 1, 0] rfl)
