theorem pv_setC (v : Wv) {i j k c : Nat} (x : Nat) (hi : i < 12) (hk : k < 7) : pv (vset v (98 + 60 * j + c) x) i k = pv v i k := fset_ne _ _ (by omega)
theorem sv_setC (v : Wv) {u j c : Nat} (x : Nat) (hu : u < 10) : sv (vset v (98 + 60 * j + c) x) u = sv v u := fset_ne _ _ (by omega)
theorem v0_setC (v : Wv) {u j c : Nat} (x : Nat) (hu : u < 14) : (vset v (98 + 60 * j + c) x) u = v u := fset_ne _ _ (by omega)
theorem cv_setC (v : Wv) {i j c d : Nat} (x : Nat) (hc : c < 60) (hd : d < 60) : cv (vset v (98 + 60 * j + c) x) i d = if i = j ∧ d = c then x else cv v i d := by
  unfold cv
  by_cases h : i = j ∧ d = c
  · rw [if_pos h, h.1, h.2]; exact fset_self _ _ _
  · rw [if_neg h]; exact fset_ne _ _ (by omega)
theorem cv_setC_self (v : Wv) {j c : Nat} (x : Nat) : cv (vset v (98 + 60 * j + c) x) j c = x := fset_self _ _ _
theorem pv_setP (v : Wv) {i j k d : Nat} (x : Nat) (hk : k < 7) (hd : d < 7) : pv (vset v (14 + 7 * j + k) x) i d = if i = j ∧ d = k then x else pv v i d := by
  unfold pv
  by_cases h : i = j ∧ d = k
  · rw [if_pos h, h.1, h.2]; exact fset_self _ _ _
  · rw [if_neg h]; exact fset_ne _ _ (by omega)
theorem cv_setP (v : Wv) {i j k c : Nat} (x : Nat) (hj : j < 12) (hk : k < 7) : cv (vset v (14 + 7 * j + k) x) i c = cv v i c := fset_ne _ _ (by omega)
theorem sv_setP (v : Wv) {u j k : Nat} (x : Nat) (hu : u < 10) : sv (vset v (14 + 7 * j + k) x) u = sv v u := fset_ne _ _ (by omega)
theorem v0_setP (v : Wv) {u j k : Nat} (x : Nat) (hu : u < 14) : (vset v (14 + 7 * j + k) x) u = v u := fset_ne _ _ (by omega)
theorem pv_setS (v : Wv) {i j k : Nat} (x : Nat) (hi : i < 14) : pv (vset v i x) j k = pv v j k := fset_ne _ _ (by omega)
theorem cv_setS (v : Wv) {i j c : Nat} (x : Nat) (hi : i < 14) : cv (vset v i x) j c = cv v j c := fset_ne _ _ (by omega)
theorem WlR.setS {G : zG} {w i x : Nat} {r : Nat → Nat} {v : Wv} {M M1 : Mm} (h : WlR G w r v M) (hi : i = 1 ∨ i = 2 ∨ i = 3) (e : M1 w = some (.inr (4, ([.ref (w + 1), .int (nI (v 0)), .ref (w + 26), .int (nI (v 1)), .int (nI (v 2)), .int (nI (v 3))] : List Value).set (i + 2) (.int (nI x))))) (o : ∀ q : Nat, q ≠ w → M1 q = M q) : WlR G w r (vset v i x) M1 := by
  obtain ⟨h1, h2, h3, h4, h5⟩ := h
  have hp : ∀ j, pv (vset v i x) j = pv v j := fun j => funext fun k => pv_setS v x (by omega)
  have hc : ∀ j, cv (vset v i x) j = cv v j := fun j => funext fun k => cv_setS v x (by omega)
  refine ⟨?_, h2.kept (o _ (by omega)), (h3.kept (o _ (by omega))).to fun u hu => congrArg nI (show sv v u = sv (vset v i x) u from (fset_ne v x (show 4 + u ≠ i by omega)).symm), fun j hj => ?_, fun j hj => ?_⟩
  · rw [e]
    rcases hi with rfl | rfl | rfl <;> rfl
  · obtain ⟨f, g, h⟩ := h4 j hj
    exact ⟨f, g, h.kept (o _ (by omega)) (o _ (by omega))⟩
  · rw [hp, hc]
    have h0 : (vset v i x) 0 = v 0 := fset_ne _ _ (by omega)
    exact (h5 j (by omega)).kept (o _ (by omega)) (o _ (by omega))
theorem WlR.setU {G : zG} {w x y : Nat} {r : Nat → Nat} {v : Wv} {M M1 : Mm} (hr : rOk r) (h : WlR G w r v M) (hn : v 0 ≤ 12) (hx : x < 10) (e : zArr G 0 M1 (w + 26) 10 (fun i => if i = x then nI y else nI (sv v i))) (o : ∀ q : Nat, q ≠ w + 26 → M1 q = M q) : WlR G w r (vset v (4 + x) y) M1 := by
  obtain ⟨h1, h2, h3, h4, h5⟩ := h
  have hp : ∀ j, pv (vset v (4 + x) y) j = pv v j := fun j => funext fun k => pv_setS v y (by omega)
  have hc : ∀ j, cv (vset v (4 + x) y) j = cv v j := fun j => funext fun k => cv_setS v y (by omega)
  have h0 : ∀ u, u < 4 → (vset v (4 + x) y) u = v u := fun u hu => fset_ne _ _ (by omega)
  refine ⟨by rw [o w (by omega), h1, h0 0 (by decide), h0 1 (by decide), h0 2 (by decide), h0 3 (by decide)], h2.kept (o _ (by omega)), e.to fun u hu => ?_, fun j hj => ?_, fun j hj => ?_⟩
  · show (if u = x then nI y else nI (sv v u)) = nI (fset v (4 + x) y (4 + u))
    by_cases hux : u = x
    · subst hux; rw [if_pos rfl, fset_self]
    · rw [if_neg hux, fset_ne _ _ (by omega)]; rfl
  · have := hr.1 j hj
    obtain ⟨f, g, h⟩ := h4 j hj
    exact ⟨f, g, h.kept (o _ (by omega)) (o _ (by omega))⟩
  · rw [hp, hc]
    have h00 := h0 0 (by decide)
    have := hr.1 j (by omega)
    exact (h5 j (by omega)).kept (o _ (by omega)) (o _ (by omega))
theorem WlR.setP {G : zG} {w j k x : Nat} {r : Nat → Nat} {v : Wv} {M M1 : Mm} (hr : rOk r) (hn : v 0 ≤ 12) (h : WlR G w r v M) (hj : j < v 0) (hk : k < 7) (e : M1 (w + 2 + 2 * r j) = some (.inr (3, ([.int (nI (pv v j 0)), .int (nI (pv v j 1)), .int (nI (pv v j 2)), .int (nI (pv v j 3)), .int (nI (pv v j 4)), .int (nI (pv v j 5)), .int (nI (pv v j 6)), .ref (w + 2 + 2 * r j + 1)] : List Value).set k (.int (nI x))))) (o : ∀ q : Nat, q ≠ w + 2 + 2 * r j → M1 q = M q) : WlR G w r (vset v (14 + 7 * j + k) x) M1 := by
  obtain ⟨h1, h2, h3, h4, h5⟩ := h
  have hjr := hr.1 j (by omega)
  have hS := Pst.setF (h5 j hj) hk e o
  have h0 : ∀ u, u < 14 → (vset v (14 + 7 * j + k) x) u = v u := fun u hu => v0_setP v x hu
  refine ⟨by rw [o w (by omega), h1, h0 0 (by decide), h0 1 (by decide), h0 2 (by decide), h0 3 (by decide)], h2.kept (o _ (by omega)), (h3.kept (o _ (by omega))).to fun u hu => congrArg nI (sv_setP v x hu).symm, fun i hi => ?_, fun i hi => ?_⟩
  · by_cases hij : i = j
    · subst hij; exact ⟨_, _, hS⟩
    · have hne : r i ≠ r j := fun q => hij (hr.2 i j hi (by omega) q)
      have := hr.1 i hi
      obtain ⟨f, g, h⟩ := h4 i hi
      exact ⟨f, g, h.kept (o _ (by omega)) (o _ (by omega))⟩
  · have h00 := h0 0 (by decide)
    by_cases hij : i = j
    · subst hij
      refine hS.to (fun d hd => ?_) (fun c hc => (cv_setP v x (by omega) hk).symm)
      rw [pv_setP v x hk hd]
      unfold fset
      by_cases hdk : d = k <;> simp [hdk]
    · have hne : r i ≠ r j := fun q => hij (hr.2 i j (by omega) (by omega) q)
      have := hr.1 i (by omega)
      refine ((h5 i (by omega)).kept (o _ (by omega)) (o _ (by omega))).to (fun d hd => ?_) (fun c hc => (cv_setP v x (by omega) hk).symm)
      rw [pv_setP v x hk hd, if_neg (fun q => hij q.1)]
theorem WlR.setC {G : zG} {w j c x : Nat} {r : Nat → Nat} {v : Wv} {M M1 : Mm} (hr : rOk r) (hn : v 0 ≤ 12) (h : WlR G w r v M) (hj : j < v 0) (hc : c < 60) (e : zArr G 0 M1 (w + 2 + 2 * r j + 1) 60 (fun i => if i = c then nI x else nI (cv v j i))) (o : ∀ q : Nat, q ≠ w + 2 + 2 * r j + 1 → M1 q = M q) : WlR G w r (vset v (98 + 60 * j + c) x) M1 := by
  obtain ⟨h1, h2, h3, h4, h5⟩ := h
  have hjr := hr.1 j (by omega)
  have hS := Pst.setC (h5 j hj) e o
  have h0 : ∀ u, u < 14 → (vset v (98 + 60 * j + c) x) u = v u := fun u hu => v0_setC v x hu
  refine ⟨by rw [o w (by omega), h1, h0 0 (by decide), h0 1 (by decide), h0 2 (by decide), h0 3 (by decide)], h2.kept (o _ (by omega)), (h3.kept (o _ (by omega))).to fun u hu => congrArg nI (sv_setC v x hu).symm, fun i hi => ?_, fun i hi => ?_⟩
  · by_cases hij : i = j
    · subst hij; exact ⟨_, _, hS⟩
    · have hne : r i ≠ r j := fun q => hij (hr.2 i j hi (by omega) q)
      have := hr.1 i hi
      obtain ⟨f, g, h⟩ := h4 i hi
      exact ⟨f, g, h.kept (o _ (by omega)) (o _ (by omega))⟩
  · have h00 := h0 0 (by decide)
    by_cases hij : i = j
    · subst hij
      refine hS.to (fun d hd => (pv_setC v x (by omega) hd).symm) (fun d hd => ?_)
      rw [cv_setC v x hc hd]
      unfold fset
      by_cases hdk : d = c <;> simp [hdk]
    · have hne : r i ≠ r j := fun q => hij (hr.2 i j (by omega) (by omega) q)
      have := hr.1 i (by omega)
      refine ((h5 i (by omega)).kept (o _ (by omega)) (o _ (by omega))).to (fun d hd => (pv_setC v x (by omega) hd).symm) (fun d hd => ?_)
      rw [cv_setC v x hc hd, if_neg (fun q => hij q.1)]
theorem wOk.setC {v : Wv} (h : wOk v) {j c x : Nat} (hc : c < 60) (hx : x ≤ 99) (hl : 0 < x → liesN (pv v j) (c % 10) (c / 10) = true) : wOk (vset v (98 + 60 * j + c) x) := by
  obtain ⟨h1, h2, h3, h4⟩ := h
  have hz : (vset v (98 + 60 * j + c) x) 0 = v 0 := v0_setC v x (by decide)
  refine ⟨by rw [hz]; exact h1, by rw [v0_setC v x (by decide)]; exact h2, fun u hu => by rw [sv_setC v x hu]; exact h3 u hu, fun i hi => ?_⟩
  rw [hz] at hi
  obtain ⟨a1, a2, a3, a4, a5, a6, a7⟩ := h4 i hi
  have hp : ∀ k, k < 7 → pv (vset v (98 + 60 * j + c) x) i k = pv v i k := fun k hk => pv_setC v x (by omega) hk
  have hl' : ∀ a b, liesN (pv (vset v (98 + 60 * j + c) x) i) a b = liesN (pv v i) a b := fun a b => by
    unfold liesN; rw [hp 0 (by decide), hp 1 (by decide), hp 2 (by decide), hp 3 (by decide)]
  unfold pOk
  rw [hp 0 (by decide), hp 1 (by decide), hp 2 (by decide), hp 3 (by decide), hp 4 (by decide)]
  refine ⟨a1, a2, a3, a4, a5, a6, fun d hd => ?_⟩
  rw [cv_setC v x hc hd, hl']
  by_cases hh : i = j ∧ d = c
  · rw [if_pos hh, hh.1, hh.2]; exact ⟨hx, hl⟩
  · rw [if_neg hh]; exact a7 d hd
theorem wOk.lies {v : Wv} (h : wOk v) {j c : Nat} (hj : j < v 0) (hc : c < 60) (hp : 0 < cv v j c) : liesN (pv v j) (c % 10) (c / 10) = true := ((h.2.2.2 j hj).2.2.2.2.2.2 c hc).2 hp
theorem wOk.decC {v : Wv} (h : wOk v) {j c x : Nat} (hj : j < v 0) (hc : c < 60) (hx : x ≤ cv v j c) : wOk (vset v (98 + 60 * j + c) x) := by
  have := h.coat hj hc
  exact h.setC hc (by omega) (fun q => h.lies hj hc (by omega))
def sellJ (v : Wv) (j : Nat) : Wv :=
  let v1 := vset v (14 + 7 * j + 5) (pv v j 5 + 1)
  let v2 := vset v1 (14 + 7 * j + 6) (pv v1 j 6 + pv v j 4)
  let v3 := vset v2 2 (v2 2 + 1)
  vset v3 3 (v3 3 + pv v j 4)
def sells (v : Wv) (c pu : Nat) : Bool := (prc v (-6) c).elim false (fun p => decide (p ≤ pu))
def sellV (v : Wv) (c pu : Nat) : Wv := (seen v (-6) c).elim v (fun j => if pv v j 4 ≤ pu then sellJ v j else v)
def coatV (v : Wv) (j b : Nat) : Nat → Wv
  | 0 => v
  | k + 1 => if seen (coatV v j b k) (-6) k = some j then vset (coatV v j b k) (98 + 60 * j + k) (min (cv (coatV v j b k) j k + b) 99) else coatV v j b k
def coatN (v : Wv) (j b : Nat) : Nat := zcnt (fun k => decide (seen (coatV v j b k) (-6) k = some j)) 60
theorem coatV_succ (v : Wv) (j b k : Nat) : coatV v j b (k + 1) = if seen (coatV v j b k) (-6) k = some j then vset (coatV v j b k) (98 + 60 * j + k) (min (cv (coatV v j b k) j k + b) 99) else coatV v j b k := rfl
theorem coatV_0 (v : Wv) (j b : Nat) : ∀ k, coatV v j b k 0 = v 0
  | 0 => rfl
  | k + 1 => by
    rw [coatV_succ]
    split
    · rw [v0_setC _ _ (by decide)]; exact coatV_0 v j b k
    · exact coatV_0 v j b k
theorem coatV_ok {v : Wv} (h : wOk v) (j b : Nat) : ∀ k, k ≤ 60 → wOk (coatV v j b k)
  | 0, _ => h
  | k + 1, hk => by
    have hi := coatV_ok h j b k (by omega)
    rw [coatV_succ]
    split
    · next hs => exact hi.setC (by omega) (by omega) (fun _ => hi.lies (seen_lt hs) (by omega) (seen_pos hs))
    · exact hi
def scrV (c : Nat) : Nat → Wv → Nat → Wv
  | 0, v, _ => v
  | j + 1, v, t => if t = 0 then v else scrV c j (vset v (98 + 60 * j + c) (cv v j c - min (cv v j c) t)) (t - min (cv v j c) t)
def scrN (c : Nat) : Nat → Wv → Nat → Nat
  | 0, _, _ => 0
  | j + 1, v, t => if t = 0 then 0 else (if 0 < min (cv v j c) t ∧ cv v j c - min (cv v j c) t = 0 then 1 else 0) + scrN c j (vset v (98 + 60 * j + c) (cv v j c - min (cv v j c) t)) (t - min (cv v j c) t)
theorem scrV_succ (c j : Nat) (v : Wv) (t : Nat) : scrV c (j + 1) v t = if t = 0 then v else scrV c j (vset v (98 + 60 * j + c) (cv v j c - min (cv v j c) t)) (t - min (cv v j c) t) := rfl
theorem scrN_succ (c j : Nat) (v : Wv) (t : Nat) : scrN c (j + 1) v t = if t = 0 then 0 else (if 0 < min (cv v j c) t ∧ cv v j c - min (cv v j c) t = 0 then 1 else 0) + scrN c j (vset v (98 + 60 * j + c) (cv v j c - min (cv v j c) t)) (t - min (cv v j c) t) := rfl
theorem scrV_z (c : Nat) (v : Wv) : ∀ n, scrV c n v 0 = v
  | 0 => rfl
  | n + 1 => by rw [scrV_succ, if_pos rfl]
theorem scrN_z (c : Nat) (v : Wv) : ∀ n, scrN c n v 0 = 0
  | 0 => rfl
  | n + 1 => by rw [scrN_succ, if_pos rfl]
/-- a cell under t days of sun, from the poster j down -/
def fadV (c : Nat) : Nat → Wv → Nat → Wv
  | 0, v, _ => v
  | j + 1, v, t => if t = 0 then v else if t < dtc (cv v j c) (sv v (c % 10)) then vset v (98 + 60 * j + c) (cv v j c - t * sv v (c % 10)) else if 0 < dtc (cv v j c) (sv v (c % 10)) then fadV c j (vset v (98 + 60 * j + c) 0) (t - dtc (cv v j c) (sv v (c % 10))) else fadV c j v t
def fadN (c : Nat) : Nat → Wv → Nat → Nat
  | 0, _, _ => 0
  | j + 1, v, t => if t = 0 then 0 else if t < dtc (cv v j c) (sv v (c % 10)) then 0 else if 0 < dtc (cv v j c) (sv v (c % 10)) then 1 + fadN c j (vset v (98 + 60 * j + c) 0) (t - dtc (cv v j c) (sv v (c % 10))) else fadN c j v t
theorem fadV_succ (c j : Nat) (v : Wv) (t : Nat) : fadV c (j + 1) v t = if t = 0 then v else if t < dtc (cv v j c) (sv v (c % 10)) then vset v (98 + 60 * j + c) (cv v j c - t * sv v (c % 10)) else if 0 < dtc (cv v j c) (sv v (c % 10)) then fadV c j (vset v (98 + 60 * j + c) 0) (t - dtc (cv v j c) (sv v (c % 10))) else fadV c j v t := rfl
theorem fadN_succ (c j : Nat) (v : Wv) (t : Nat) : fadN c (j + 1) v t = if t = 0 then 0 else if t < dtc (cv v j c) (sv v (c % 10)) then 0 else if 0 < dtc (cv v j c) (sv v (c % 10)) then 1 + fadN c j (vset v (98 + 60 * j + c) 0) (t - dtc (cv v j c) (sv v (c % 10))) else fadN c j v t := rfl
theorem fadV_z (c : Nat) (v : Wv) : ∀ n, fadV c n v 0 = v
  | 0 => rfl
  | n + 1 => by rw [fadV_succ, if_pos rfl]
theorem fadN_z (c : Nat) (v : Wv) : ∀ n, fadN c n v 0 = 0
  | 0 => rfl
  | n + 1 => by rw [fadN_succ, if_pos rfl]
theorem dtc_gt {x u t : Nat} (h : t < dtc x u) : t * u ≤ x := by
  unfold dtc at h
  split at h
  · omega
  · split at h
    · next hu =>
      have h1 := (Nat.le_div_iff_mul_le hu).mp (show t + 1 ≤ (x + u - 1) / u from h)
      rw [Nat.add_mul, Nat.one_mul] at h1
      omega
    · next hu =>
      have : u = 0 := by omega
      subst this; omega
/-- a wall behind t days, cell after cell -/
def fadA (v : Wv) (t : Nat) : Nat → Wv
  | 0 => v
  | k + 1 => fadV k (v 0) (fadA v t k) t
def fadS (v : Wv) (t : Nat) : Nat := zsum (fun k => fadN k (v 0) (fadA v t k) t) 60
theorem fadV_keep (c : Nat) (hc : c < 60) : ∀ (n : Nat) (v : Wv) (t : Nat), wOk v → n ≤ v 0 → wOk (fadV c n v t) ∧ (∀ u, u < 14 → fadV c n v t u = v u)
  | 0, v, t, h, _ => ⟨h, fun _ _ => rfl⟩
  | j + 1, v, t, h, hn => by
    rw [fadV_succ]
    split
    · exact ⟨h, fun _ _ => rfl⟩
    · split
      · exact ⟨h.decC (by omega) hc (Nat.sub_le _ _), fun u hu => v0_setC v _ hu⟩
      · split
        · have h1 := h.decC (x := 0) (show j < v 0 by omega) hc (Nat.zero_le _)
          have h2 := fadV_keep c hc j _ (t - dtc (cv v j c) (sv v (c % 10))) h1 (by rw [v0_setC v _ (by decide)]; omega)
          exact ⟨h2.1, fun u hu => (h2.2 u hu).trans (v0_setC v _ hu)⟩
        · exact fadV_keep c hc j v t h (by omega)
theorem fadA_keep {v : Wv} (h : wOk v) (t : Nat) : ∀ k, k ≤ 60 → wOk (fadA v t k) ∧ (∀ u, u < 14 → fadA v t k u = v u)
  | 0, _ => ⟨h, fun _ _ => rfl⟩
  | k + 1, hk => by
    have h1 := fadA_keep h t k (by omega)
    have h2 := fadV_keep k (by omega) (v 0) (fadA v t k) t h1.1 (by rw [h1.2 0 (by decide)]; exact Nat.le_refl _)
    exact ⟨h2.1, fun u hu => (h2.2 u hu).trans (h1.2 u hu)⟩

set_option maxHeartbeats 4000000 in
set_option maxRecDepth 100000 in
theorem c_X4_sellAt (l : Launch) (G : zG) (B0 : Nat) (M : Mm) (w : Nat) (r : Nat → Nat) (v : Wv) (hW : WlR G w r v M) (hr : rOk r) (hv : wOk v) (hBw : B0 ≤ w) (c pu : Nat) (hc : c < 60) (hpu : pu ≤ 999) : zMet l yX4_sellAt cX4_sellAt 5 (some .boolean) 3 0 0 G B0 M [.ref w, .int (nI c), .int (nI pu)] (some (.int (zb (sells v c pu)))) (fun M1 => WlR G w r (sellV v c pu) M1 ∧ ∀ q, (q < w ∨ w + 27 ≤ q) → M1 q = M q) := by
  refine z_met RX4 [(0, .ref w), (1, .int (nI c)), (2, .int (nI pu))] (by decide) rfl (Nat.le_of_ble_eq_true rfl) rfl ?_
  intro pg ev s m below meth cd ls hE hin hB0 hH hl
  have hx := hE.1
  have hb := hE.2.1
  have hn := hv.1
  have hF : ∀ q, (q < w ∨ w + 27 ≤ q) → M q = M q := fun _ _ => rfl
  refine z_gen B0 (fun H locs hH hS => ?_) hH
  refine lv_aload_n hx hb dX4_sellAt_0 rfl (lv_at hl 0 rfl) ?_
  refine lv_iload_n hx hb dX4_sellAt_1 rfl (lv_at hl 1 rfl) ?_
  refine z_callV (rest := []) (st2 := [.int (oI (seen v (-6) c))]) hE hH hS hB0 hl ca_X4_seenAt mkX4_56 (c_X4_seenAt l G B0 M w r v hW hr hv c (by omega)) hW.1 rfl rfl rfl rfl rfl ⟨Nat.le_of_ble_eq_true rfl, Nat.le_of_ble_eq_true rfl⟩ (Nat.le_of_ble_eq_true rfl) ⟨Nat.le_refl _, Nat.le_refl _⟩ dX4_sellAt_2 (fun H locs M1 hH hp hS => ?_)
  subst hp
  refine lv_istore_n (lv' := [(3, .int (oI (seen v (-6) c))), (0, .ref w), (1, .int (nI c)), (2, .int (nI pu))]) hx hb dX4_sellAt_5 rfl hl (by decide) rfl (fun ls hl => ?_)
  refine lv_iload_n hx hb dX4_sellAt_6 rfl (lv_at hl 0 rfl) ?_
  refine lv_bipush (v := (-6)) hx hb dX4_sellAt_7 (by decide) ?_
  refine o_cmp_eq (tgt := 25) hx hb (seen_ob hv) dX4_sellAt_9 (by decide) (fun h1 => ?_) (fun j2 h1 => ?_)
  · refine n_iconst hx hb 0 dX4_sellAt_25 (by decide) ?_
    exact z_zret hE hH hS (by rw [show sells v c pu = false from by simp [sells, prc, *]; try omega]; rfl) ⟨by simp only [sellV, h1, Option.elim]; first | exact hW | (rw [if_neg (by omega)]; exact hW) | (rw [if_pos (by omega)]; exact hW), hF⟩ dX4_sellAt_26
  · rw [h1] at hl
    replace hl : lv_has ls 5 [(3, .int (nI j2)), (0, .ref w), (1, .int (nI c)), (2, .int (nI pu))] := hl
    have j2_lt := seen_lt h1
    have j2_pos := seen_pos h1
    have hrj := hr.1 j2 (by omega)
    refine lv_aload_n hx hb dX4_sellAt_12 rfl (lv_at hl 1 rfl) ?_
    refine z_get (T := TX4) (v := .ref (w + 1)) hE hH hW.1 rfl uw_X4 0 (by decide) fkX4_11 rfl dX4_sellAt_13 ?_
    refine lv_iload_n hx hb dX4_sellAt_16 rfl (lv_at hl 0 rfl) ?_
    refine z_aald hE hH hW.2.1 rfl (k := j2) (by omega) (by decide) dX4_sellAt_17 ?_
    have q3 := hv.price (j := j2) (by omega)
    refine z_get (T := TX3) (v := .int (nI (pv v j2 4))) hE hH (hW.2.2.2.2 j2 (by omega)).1 rfl uw_X3 4 (by decide) fkX4_66 rfl dX4_sellAt_18 ?_
    refine lv_iload_n hx hb dX4_sellAt_21 rfl (lv_at hl 3 rfl) ?_
    refine n_cmp_le (tgt := 27) hx hb (by omega) (by omega) dX4_sellAt_22 (by decide) (fun h4 => ?_) (fun h4 => ?_)
    · refine lv_aload_n hx hb dX4_sellAt_27 rfl (lv_at hl 1 rfl) ?_
      refine z_get (T := TX4) (v := .ref (w + 1)) hE hH hW.1 rfl uw_X4 0 (by decide) fkX4_11 rfl dX4_sellAt_28 ?_
      refine lv_iload_n hx hb dX4_sellAt_31 rfl (lv_at hl 0 rfl) ?_
      refine z_aald hE hH hW.2.1 rfl (k := j2) (by omega) (by decide) dX4_sellAt_32 ?_
      have q5 := hv.price (j := j2) (by omega)
      refine z_get (T := TX3) (v := .int (nI (pv v j2 4))) hE hH (hW.2.2.2.2 j2 (by omega)).1 rfl uw_X3 4 (by decide) fkX4_66 rfl dX4_sellAt_33 ?_
      refine lv_istore (lv' := [(4, .int (nI (pv v j2 4))), (3, .int (nI j2)), (0, .ref w), (1, .int (nI c)), (2, .int (nI pu))]) hx hb dX4_sellAt_36 hl (by decide) rfl (fun ls hl => ?_)
      refine lv_aload_n hx hb dX4_sellAt_38 rfl (lv_at hl 2 rfl) ?_
      refine z_get (T := TX4) (v := .ref (w + 1)) hE hH hW.1 rfl uw_X4 0 (by decide) fkX4_11 rfl dX4_sellAt_39 ?_
      refine lv_iload_n hx hb dX4_sellAt_42 rfl (lv_at hl 1 rfl) ?_
      refine z_aald hE hH hW.2.1 rfl (k := j2) (by omega) (by decide) dX4_sellAt_43 ?_
      refine lv_dup hx hb dX4_sellAt_44 rfl ?_
      refine z_get (T := TX3) (v := .int (nI (pv v j2 5))) hE hH (hW.2.2.2.2 j2 (by omega)).1 rfl uw_X3 5 (by decide) fkX4_69 rfl dX4_sellAt_45 ?_
      refine n_iconst hx hb 1 dX4_sellAt_48 (by decide) ?_
      refine n_iadd hx hb dX4_sellAt_49 ?_
      refine z_put (T := TX3) hE hH hS (hW.2.2.2.2 j2 (by omega)).1 rfl uw_X3 tyX3 tyX3_ok nmX3 5 (by decide) fkX4_69 rfl rfl rfl (Nat.le_of_ble_eq_true rfl) (by omega) dX4_sellAt_50 (fun H locs M9 hH hS e7 o8 => ?_)
      have q10 := hr.1 j2 (by omega)
      have hW11 := WlR.setP (j := j2) (k := 5) hr (by omega) hW (by omega) (by decide) e7 o8
      have z12 : (vset v (14 + 7 * j2 + 5) ((pv v j2 5) + 1)) 0 = v 0 := fset_ne _ _ (by omega)
      have hF13 := fun q hq => (o8 q (by omega)).trans (hF q hq)
      refine lv_aload_n hx hb dX4_sellAt_53 rfl (lv_at hl 2 rfl) ?_
      refine z_get (T := TX4) (v := .ref (w + 1)) hE hH hW11.1 rfl uw_X4 0 (by decide) fkX4_11 rfl dX4_sellAt_54 ?_
      refine lv_iload_n hx hb dX4_sellAt_57 rfl (lv_at hl 1 rfl) ?_
      refine z_aald hE hH hW11.2.1 rfl (k := j2) (by omega) (by decide) dX4_sellAt_58 ?_
      refine lv_dup hx hb dX4_sellAt_59 rfl ?_
      refine z_get (T := TX3) (v := .int (nI (pv (vset v (14 + 7 * j2 + 5) ((pv v j2 5) + 1)) j2 6))) hE hH (hW11.2.2.2.2 j2 (by omega)).1 rfl uw_X3 6 (by decide) fkX4_70 rfl dX4_sellAt_60 ?_
      refine lv_iload hx hb dX4_sellAt_63 (lv_at hl 0 rfl) ?_
      refine n_iadd hx hb dX4_sellAt_65 ?_
      refine z_put (T := TX3) hE hH hS (hW11.2.2.2.2 j2 (by omega)).1 rfl uw_X3 tyX3 tyX3_ok nmX3 6 (by decide) fkX4_70 rfl rfl rfl (Nat.le_of_ble_eq_true rfl) (by omega) dX4_sellAt_66 (fun H locs M17 hH hS e15 o16 => ?_)
      have q18 := hr.1 j2 (by omega)
      have hW19 := WlR.setP (j := j2) (k := 6) hr (by omega) hW11 (by omega) (by decide) e15 o16
      have z20 : (vset (vset v (14 + 7 * j2 + 5) ((pv v j2 5) + 1)) (14 + 7 * j2 + 6) ((pv (vset v (14 + 7 * j2 + 5) ((pv v j2 5) + 1)) j2 6) + (pv v j2 4))) 0 = (vset v (14 + 7 * j2 + 5) ((pv v j2 5) + 1)) 0 := fset_ne _ _ (by omega)
      have hF21 := fun q hq => (o16 q (by omega)).trans (hF13 q hq)
      refine lv_aload_n hx hb dX4_sellAt_69 rfl (lv_at hl 2 rfl) ?_
      refine lv_dup hx hb dX4_sellAt_70 rfl ?_
      refine z_get (T := TX4) (v := .int (nI ((vset (vset v (14 + 7 * j2 + 5) ((pv v j2 5) + 1)) (14 + 7 * j2 + 6) ((pv (vset v (14 + 7 * j2 + 5) ((pv v j2 5) + 1)) j2 6) + (pv v j2 4))) 2))) hE hH hW19.1 rfl uw_X4 4 (by decide) fkX4_39 rfl dX4_sellAt_71 ?_
      refine n_iconst hx hb 1 dX4_sellAt_74 (by decide) ?_
      refine n_iadd hx hb dX4_sellAt_75 ?_
      refine z_put (T := TX4) hE hH hS hW19.1 rfl uw_X4 tyX4 tyX4_ok nmX4 4 (by decide) fkX4_39 rfl rfl rfl (Nat.le_of_ble_eq_true rfl) (by omega) dX4_sellAt_76 (fun H locs M24 hH hS e22 o23 => ?_)
      have hW25 := WlR.setS (i := 2) hW19 (by decide) e22 o23
      have z26 : (vset (vset (vset v (14 + 7 * j2 + 5) ((pv v j2 5) + 1)) (14 + 7 * j2 + 6) ((pv (vset v (14 + 7 * j2 + 5) ((pv v j2 5) + 1)) j2 6) + (pv v j2 4))) 2 (((vset (vset v (14 + 7 * j2 + 5) ((pv v j2 5) + 1)) (14 + 7 * j2 + 6) ((pv (vset v (14 + 7 * j2 + 5) ((pv v j2 5) + 1)) j2 6) + (pv v j2 4))) 2) + 1)) 0 = (vset (vset v (14 + 7 * j2 + 5) ((pv v j2 5) + 1)) (14 + 7 * j2 + 6) ((pv (vset v (14 + 7 * j2 + 5) ((pv v j2 5) + 1)) j2 6) + (pv v j2 4))) 0 := fset_ne _ _ (by omega)
      have hF27 := fun q hq => (o23 q (by omega)).trans (hF21 q hq)
      refine lv_aload_n hx hb dX4_sellAt_79 rfl (lv_at hl 2 rfl) ?_
      refine lv_dup hx hb dX4_sellAt_80 rfl ?_
      refine z_get (T := TX4) (v := .int (nI ((vset (vset (vset v (14 + 7 * j2 + 5) ((pv v j2 5) + 1)) (14 + 7 * j2 + 6) ((pv (vset v (14 + 7 * j2 + 5) ((pv v j2 5) + 1)) j2 6) + (pv v j2 4))) 2 (((vset (vset v (14 + 7 * j2 + 5) ((pv v j2 5) + 1)) (14 + 7 * j2 + 6) ((pv (vset v (14 + 7 * j2 + 5) ((pv v j2 5) + 1)) j2 6) + (pv v j2 4))) 2) + 1)) 3))) hE hH hW25.1 rfl uw_X4 5 (by decide) fkX4_42 rfl dX4_sellAt_81 ?_
      refine lv_iload hx hb dX4_sellAt_84 (lv_at hl 0 rfl) ?_
      refine n_iadd hx hb dX4_sellAt_86 ?_
      refine z_put (T := TX4) hE hH hS hW25.1 rfl uw_X4 tyX4 tyX4_ok nmX4 5 (by decide) fkX4_42 rfl rfl rfl (Nat.le_of_ble_eq_true rfl) (by omega) dX4_sellAt_87 (fun H locs M30 hH hS e28 o29 => ?_)
      have hW31 := WlR.setS (i := 3) hW25 (by decide) e28 o29
      have z32 : (vset (vset (vset (vset v (14 + 7 * j2 + 5) ((pv v j2 5) + 1)) (14 + 7 * j2 + 6) ((pv (vset v (14 + 7 * j2 + 5) ((pv v j2 5) + 1)) j2 6) + (pv v j2 4))) 2 (((vset (vset v (14 + 7 * j2 + 5) ((pv v j2 5) + 1)) (14 + 7 * j2 + 6) ((pv (vset v (14 + 7 * j2 + 5) ((pv v j2 5) + 1)) j2 6) + (pv v j2 4))) 2) + 1)) 3 (((vset (vset (vset v (14 + 7 * j2 + 5) ((pv v j2 5) + 1)) (14 + 7 * j2 + 6) ((pv (vset v (14 + 7 * j2 + 5) ((pv v j2 5) + 1)) j2 6) + (pv v j2 4))) 2 (((vset (vset v (14 + 7 * j2 + 5) ((pv v j2 5) + 1)) (14 + 7 * j2 + 6) ((pv (vset v (14 + 7 * j2 + 5) ((pv v j2 5) + 1)) j2 6) + (pv v j2 4))) 2) + 1)) 3) + (pv v j2 4))) 0 = (vset (vset (vset v (14 + 7 * j2 + 5) ((pv v j2 5) + 1)) (14 + 7 * j2 + 6) ((pv (vset v (14 + 7 * j2 + 5) ((pv v j2 5) + 1)) j2 6) + (pv v j2 4))) 2 (((vset (vset v (14 + 7 * j2 + 5) ((pv v j2 5) + 1)) (14 + 7 * j2 + 6) ((pv (vset v (14 + 7 * j2 + 5) ((pv v j2 5) + 1)) j2 6) + (pv v j2 4))) 2) + 1)) 0 := fset_ne _ _ (by omega)
      have hF33 := fun q hq => (o29 q (by omega)).trans (hF27 q hq)
      refine n_iconst hx hb 1 dX4_sellAt_90 (by decide) ?_
      exact z_zret hE hH hS (by rw [show sells v c pu = true from by simp [sells, prc, h1, *]]; rfl) ⟨by simp only [sellV, h1, Option.elim]; first | exact hW31 | (rw [if_neg (by omega)]; exact hW31) | (rw [if_pos (by omega)]; exact hW31), hF33⟩ dX4_sellAt_91
    · refine n_iconst hx hb 0 dX4_sellAt_25 (by decide) ?_
      exact z_zret hE hH hS (by rw [show sells v c pu = false from by simp [sells, prc, *]; try omega]; rfl) ⟨by simp only [sellV, h1, Option.elim]; first | exact hW | (rw [if_neg (by omega)]; exact hW) | (rw [if_pos (by omega)]; exact hW), hF⟩ dX4_sellAt_26

set_option maxHeartbeats 4000000 in
set_option maxRecDepth 100000 in
theorem c_X4_coatSeenCells (l : Launch) (G : zG) (B0 : Nat) (M : Mm) (w : Nat) (r : Nat → Nat) (v : Wv) (hW : WlR G w r v M) (hr : rOk r) (hv : wOk v) (hBw : B0 ≤ w) (j b : Nat) (hj : j < v 0) (hb99 : b ≤ 99) : zMet l yX4_coatSeenCells cX4_coatSeenCells 6 (some .int) 3 0 0 G B0 M [.ref w, .int (nI j), .int (nI b)] (some (.int (nI (coatN v j b)))) (fun M1 => WlR G w r (coatV v j b 60) M1 ∧ ∀ q, (q < w ∨ w + 27 ≤ q) → M1 q = M q) := by
  refine z_met RX4 [(0, .ref w), (1, .int (nI j)), (2, .int (nI b))] (by decide) rfl (Nat.le_of_ble_eq_true rfl) rfl ?_
  intro pg ev s m below meth cd ls hE hin hB0 hH hl
  have hx := hE.1
  have hb := hE.2.1
  have hn := hv.1
  have hF : ∀ q, (q < w ∨ w + 27 ≤ q) → M q = M q := fun _ _ => rfl
  refine z_gen B0 (fun H locs hH hS => ?_) hH
  refine n_iconst hx hb 0 dX4_coatSeenCells_0 (by decide) ?_
  refine lv_istore_n (lv' := [(3, .int (nI 0)), (0, .ref w), (1, .int (nI j)), (2, .int (nI b))]) hx hb dX4_coatSeenCells_1 rfl hl (by decide) rfl (fun ls hl => ?_)
  refine lv_aload_n hx hb dX4_coatSeenCells_2 rfl (lv_at hl 1 rfl) ?_
  refine z_get (T := TX4) (v := .ref (w + 1)) hE hH hW.1 rfl uw_X4 0 (by decide) fkX4_11 rfl dX4_coatSeenCells_3 ?_
  refine lv_iload_n hx hb dX4_coatSeenCells_6 rfl (lv_at hl 2 rfl) ?_
  refine z_aald hE hH hW.2.1 rfl (k := j) (by omega) (by decide) dX4_coatSeenCells_7 ?_
  refine z_get (T := TX3) (v := .ref (w + 2 + 2 * r j + 1)) hE hH (hW.2.2.2.2 j (by omega)).1 rfl uw_X3 7 (by decide) fkX4_53 rfl dX4_coatSeenCells_8 ?_
  refine lv_astore (lv' := [(4, .ref (w + 2 + 2 * r j + 1)), (3, .int (nI 0)), (0, .ref w), (1, .int (nI j)), (2, .int (nI b))]) hx hb dX4_coatSeenCells_11 hl (by decide) rfl (fun ls hl => ?_)
  refine n_iconst hx hb 0 dX4_coatSeenCells_13 (by decide) ?_
  refine lv_istore (lv' := [(5, .int (nI 0)), (4, .ref (w + 2 + 2 * r j + 1)), (3, .int (nI 0)), (0, .ref w), (1, .int (nI j)), (2, .int (nI b))]) hx hb dX4_coatSeenCells_14 hl (by decide) rfl (fun ls hl => ?_)
  have L16 : ∀ (dd : Nat) (k : Nat) (a : Nat) (u : Wv) (M1 : Mm), 60 < k + dd → (k ≤ 60) → (WlR G w r u M1) → (wOk u) → (∀ q, (q < w ∨ w + 27 ≤ q) → M1 q = M q) → (u = coatV v j b k) → (a = zcnt (fun k => decide (seen (coatV v j b k) (-6) k = some j)) k) → ∀ (H : Heap) (locs : List Loc), zH G M1 H → zS 0 B0 s.heap H locs → ∀ (ls : Array Slot), lv_has ls 6 [(0, .ref w), (1, .int (nI j)), (2, .int (nI b)), (3, .int (nI a)), (4, .ref (w + 2 + 2 * r j + 1)), (5, .int (nI k))] → zW pg l ev 3 0 0 s m [.ref w, .int (nI j), .int (nI b)] below meth cd H locs 0 0 G B0 (some (.int (nI (coatN v j b)))) (fun M1 => WlR G w r (coatV v j b 60) M1 ∧ ∀ q, (q < w ∨ w + 27 ≤ q) → M1 q = M q) (F0 m 16 ls []) := by
    intro dd
    induction dd with
    | zero =>
      intro k a u M1 hdd hk hW1 hv1 hF1 hu ha
      exact absurd hdd (by omega)
    | succ dd ih =>
      intro k a u M1 hdd hk hW1 hv1 hF1 hu ha H locs hH hS ls hl
      have hn1 := hv1.1
      have hu0 : u 0 = v 0 := by rw [hu]; exact coatV_0 v j b k
      refine lv_iload hx hb dX4_coatSeenCells_16 (lv_at hl 5 rfl) ?_
      refine n_bipush hx hb 60 dX4_coatSeenCells_18 (by decide) ?_
      refine n_cmp_ge (tgt := 59) hx hb (by omega) (by decide) dX4_coatSeenCells_20 (by decide) (fun h1 => ?_) (fun h1 => ?_)
      · refine lv_iload_n hx hb dX4_coatSeenCells_59 rfl (lv_at hl 3 rfl) ?_
        exact z_iret hE hH hS (by have hkk : k = 60 := (by omega); subst hkk; rw [ha]; first | done | rfl) ⟨by have hkk : k = 60 := (by omega); subst hkk; rw [← hu]; exact hW1, hF1⟩ dX4_coatSeenCells_60
      · refine lv_aload_n hx hb dX4_coatSeenCells_23 rfl (lv_at hl 0 rfl) ?_
        refine lv_iload hx hb dX4_coatSeenCells_24 (lv_at hl 5 rfl) ?_
        refine z_callV (rest := []) (st2 := [.int (oI (seen u (-6) k))]) hE hH hS hB0 hl ca_X4_seenAt mkX4_56 (c_X4_seenAt l G B0 M1 w r u hW1 hr hv1 k (by omega)) hW1.1 rfl rfl rfl rfl rfl ⟨Nat.le_of_ble_eq_true rfl, Nat.le_of_ble_eq_true rfl⟩ (Nat.le_of_ble_eq_true rfl) ⟨Nat.le_refl _, Nat.le_refl _⟩ dX4_coatSeenCells_26 (fun H locs M1 hH hp hS => ?_)
        subst hp
        refine lv_iload_n hx hb dX4_coatSeenCells_29 rfl (lv_at hl 1 rfl) ?_
        refine on_cmp_ne (tgt := 53) hx hb (seen_ob hv1) (by omega) dX4_coatSeenCells_30 (by decide) (fun h2 => ?_) (fun h2 => ?_)
        · refine lv_iinc (v := (nI (k + 1))) (lv' := [(5, .int (nI (k + 1))), (0, .ref w), (1, .int (nI j)), (2, .int (nI b)), (3, .int (nI a)), (4, .ref (w + 2 + 2 * r j + 1))]) hx hb dX4_coatSeenCells_53 hl (k := 5) rfl (nI_inc _) (by decide) rfl (fun ls hl => ?_)
          refine lv_goto (tgt := 16) hx hb dX4_coatSeenCells_56 (by decide) ?_
          exact ih  (k + 1) a u M1 (by omega) (by omega) hW1 hv1 hF1 (by rw [coatV_succ, ← hu]; simp [h2]) (by unfold zcnt; rw [← ha, ← hu]; simp [h2]) _ _ hH hS _ (lv_sub hl [1, 2, 3, 4, 5, 0] rfl)
        · refine lv_aload hx hb dX4_coatSeenCells_33 (lv_at hl 4 rfl) ?_
          refine lv_iload hx hb dX4_coatSeenCells_35 (lv_at hl 5 rfl) ?_
          refine lv_aload hx hb dX4_coatSeenCells_37 (lv_at hl 4 rfl) ?_
          refine lv_iload hx hb dX4_coatSeenCells_39 (lv_at hl 5 rfl) ?_
          refine z_iald hE hH (hW1.2.2.2.2 j (by omega)).2 (k := k) (by omega) (by decide) dX4_coatSeenCells_41 ?_
          have q3 := hv1.coat (j := j) (c := k) (by omega) (by omega)
          refine lv_iload_n hx hb dX4_coatSeenCells_42 rfl (lv_at hl 2 rfl) ?_
          refine n_iadd hx hb dX4_coatSeenCells_43 ?_
          refine n_bipush hx hb 99 dX4_coatSeenCells_44 (by decide) ?_
          refine z_min (rest := [.int (nI k), .ref (w + 2 + 2 * r j + 1)]) hE hl mkX4_60 (by omega) (by decide) ⟨Nat.le_of_ble_eq_true rfl, Nat.le_of_ble_eq_true rfl⟩ ⟨Nat.le_refl _, Nat.le_refl _⟩ dX4_coatSeenCells_46 ?_
          refine z_iast hE hH hS (hW1.2.2.2.2 j (by omega)).2 (k := k) (by omega) (by decide) (by omega) dX4_coatSeenCells_49 (fun H locs M6 hH hS e4 o5 => ?_)
          have q7 := hr.1 j (by omega)
          have hW8 := WlR.setC (j := j) (c := k) hr (by omega) hW1 (by omega) (by omega) e4 o5
          have q9 := cv_setC_self u (j := j) (c := k) (min ((cv u j k) + b) 99)
          have hv10 : wOk (vset u (98 + 60 * j + k) (min ((cv u j k) + b) 99)) := (hv1.setC (by omega) (by omega) (fun _ => hv1.lies (by omega) (by omega) (seen_pos h2)))
          have z11 : (vset u (98 + 60 * j + k) (min ((cv u j k) + b) 99)) 0 = u 0 := fset_ne _ _ (by omega)
          have hF12 := fun q hq => (o5 q (by omega)).trans (hF1 q hq)
          refine lv_iinc (v := (nI (a + 1))) (lv' := [(3, .int (nI (a + 1))), (0, .ref w), (1, .int (nI j)), (2, .int (nI b)), (4, .ref (w + 2 + 2 * r j + 1)), (5, .int (nI k))]) hx hb dX4_coatSeenCells_50 hl (k := 3) rfl (nI_inc _) (by decide) rfl (fun ls hl => ?_)
          refine lv_iinc (v := (nI (k + 1))) (lv' := [(5, .int (nI (k + 1))), (3, .int (nI (a + 1))), (0, .ref w), (1, .int (nI j)), (2, .int (nI b)), (4, .ref (w + 2 + 2 * r j + 1))]) hx hb dX4_coatSeenCells_53 hl (k := 5) rfl (nI_inc _) (by decide) rfl (fun ls hl => ?_)
          refine lv_goto (tgt := 16) hx hb dX4_coatSeenCells_56 (by decide) ?_
          exact ih  (k + 1) (a + 1) (vset u (98 + 60 * j + k) (min ((cv u j k) + b) 99)) M6 (by omega) (by omega) hW8 hv10 hF12 (by rw [coatV_succ, ← hu]; simp [h2]) (by unfold zcnt; rw [← ha, ← hu]; simp [h2]) _ _ hH hS _ (lv_sub hl [2, 3, 4, 1, 5, 0] rfl)
  exact L16 61 0 0 v M (by omega) (by omega) hW hv hF rfl rfl _ _ hH hS _ (lv_sub hl [3, 4, 5, 2, 1, 0] rfl)

set_option maxHeartbeats 4000000 in
set_option maxRecDepth 100000 in
theorem c_X4_scrapeAt (l : Launch) (G : zG) (B0 : Nat) (M : Mm) (w : Nat) (r : Nat → Nat) (v : Wv) (hW : WlR G w r v M) (hr : rOk r) (hv : wOk v) (hBw : B0 ≤ w) (c b : Nat) (hc : c < 60) (hb3 : b ≤ 300) : zMet l yX4_scrapeAt cX4_scrapeAt 8 (some .int) 1 0 0 G B0 M [.ref w, .int (nI c), .int (nI b)] (some (.int (nI (scrN c (v 0) v b)))) (fun M1 => WlR G w r (scrV c (v 0) v b) M1 ∧ ∀ q, (q < w ∨ w + 27 ≤ q) → M1 q = M q) := by
  refine z_met RX4 [(0, .ref w), (1, .int (nI c)), (2, .int (nI b))] (by decide) rfl (Nat.le_of_ble_eq_true rfl) rfl ?_
  intro pg ev s m below meth cd ls hE hin hB0 hH hl
  have hx := hE.1
  have hb := hE.2.1
  have hn := hv.1
  have hF : ∀ q, (q < w ∨ w + 27 ≤ q) → M q = M q := fun _ _ => rfl
  refine z_gen B0 (fun H locs hH hS => ?_) hH
  refine n_iconst hx hb 0 dX4_scrapeAt_0 (by decide) ?_
  refine lv_istore_n (lv' := [(3, .int (nI 0)), (0, .ref w), (1, .int (nI c)), (2, .int (nI b))]) hx hb dX4_scrapeAt_1 rfl hl (by decide) rfl (fun ls hl => ?_)
  refine lv_iload_n hx hb dX4_scrapeAt_2 rfl (lv_at hl 3 rfl) ?_
  refine lv_istore (lv' := [(4, .int (nI b)), (3, .int (nI 0)), (0, .ref w), (1, .int (nI c)), (2, .int (nI b))]) hx hb dX4_scrapeAt_3 hl (by decide) rfl (fun ls hl => ?_)
  refine lv_aload_n hx hb dX4_scrapeAt_5 rfl (lv_at hl 2 rfl) ?_
  refine z_get (T := TX4) (v := .int (nI (v 0))) hE hH hW.1 rfl uw_X4 1 (by decide) fkX4_22 rfl dX4_scrapeAt_6 ?_
  refine n_iconst hx hb 1 dX4_scrapeAt_9 (by decide) ?_
  refine lv_isub hx hb dX4_scrapeAt_10 ?_
  refine lv_istore (lv' := [(5, .int (nI (v 0) - nI 1)), (4, .int (nI b)), (3, .int (nI 0)), (0, .ref w), (1, .int (nI c)), (2, .int (nI b))]) hx hb dX4_scrapeAt_11 hl (by decide) rfl (fun ls hl => ?_)
  have L13 : ∀ (dd : Nat) (n : Nat) (t : Nat) (a : Nat) (u : Wv) (M1 : Mm), n < dd → (WlR G w r u M1) → (wOk u) → (∀ q, (q < w ∨ w + 27 ≤ q) → M1 q = M q) → (u 0 = v 0) → (n ≤ v 0) → (t ≤ 300) → (scrV c n u t = scrV c (v 0) v b) → (a + scrN c n u t = scrN c (v 0) v b) → ∀ (H : Heap) (locs : List Loc), zH G M1 H → zS 0 B0 s.heap H locs → ∀ (ls : Array Slot), lv_has ls 8 [(0, .ref w), (1, .int (nI c)), (2, .int (nI b)), (3, .int (nI a)), (4, .int (nI t)), (5, .int (nI n - nI 1))] → zW pg l ev 1 0 0 s m [.ref w, .int (nI c), .int (nI b)] below meth cd H locs 0 0 G B0 (some (.int (nI (scrN c (v 0) v b)))) (fun M1 => WlR G w r (scrV c (v 0) v b) M1 ∧ ∀ q, (q < w ∨ w + 27 ≤ q) → M1 q = M q) (F0 m 13 ls []) := by
    intro dd
    induction dd with
    | zero =>
      intro n t a u M1 hdd hW1 hv1 hF1 hu0 hnn ht hs ha
      exact absurd hdd (by omega)
    | succ dd ih =>
      intro n t a u M1 hdd hW1 hv1 hF1 hu0 hnn ht hs ha H locs hH hS ls hl
      have hn1 := hv1.1
      refine lv_iload hx hb dX4_scrapeAt_13 (lv_at hl 5 rfl) ?_
      refine n_down_lt (tgt := 83) hx hb (by omega) dX4_scrapeAt_15 (by decide) (fun h1 => ?_) (fun j2 h1 => ?_)
      · refine lv_iload_n hx hb dX4_scrapeAt_83 rfl (lv_at hl 3 rfl) ?_
        exact z_iret hE hH hS (by rw [← ha]; first | (rw [show t = 0 by omega, scrN_z]; rfl) | (rw [show n = 0 by omega]; rfl)) ⟨by rw [← hs]; first | (rw [show t = 0 by omega, scrV_z]; exact hW1) | (rw [show n = 0 by omega]; exact hW1), hF1⟩ dX4_scrapeAt_84
      · subst h1
        rw [nI_down] at hl
        refine lv_iload hx hb dX4_scrapeAt_18 (lv_at hl 4 rfl) ?_
        refine n_if_le (tgt := 83) hx hb (by omega) dX4_scrapeAt_20 (by decide) (fun h3 => ?_) (fun h3 => ?_)
        · refine lv_iload_n hx hb dX4_scrapeAt_83 rfl (lv_at hl 3 rfl) ?_
          exact z_iret hE hH hS (by rw [← ha]; first | (rw [show t = 0 by omega, scrN_z]; rfl) | (rw [show n = 0 by omega]; rfl)) ⟨by rw [← hs]; first | (rw [show t = 0 by omega, scrV_z]; exact hW1) | (rw [show n = 0 by omega]; exact hW1), hF1⟩ dX4_scrapeAt_84
        · refine lv_aload_n hx hb dX4_scrapeAt_23 rfl (lv_at hl 0 rfl) ?_
          refine z_get (T := TX4) (v := .ref (w + 1)) hE hH hW1.1 rfl uw_X4 0 (by decide) fkX4_11 rfl dX4_scrapeAt_24 ?_
          refine lv_iload hx hb dX4_scrapeAt_27 (lv_at hl 5 rfl) ?_
          refine z_aald hE hH hW1.2.1 rfl (k := j2) (by omega) (by decide) dX4_scrapeAt_29 ?_
          refine z_get (T := TX3) (v := .ref (w + 2 + 2 * r j2 + 1)) hE hH (hW1.2.2.2.2 j2 (by omega)).1 rfl uw_X3 7 (by decide) fkX4_53 rfl dX4_scrapeAt_30 ?_
          refine lv_astore (lv' := [(6, .ref (w + 2 + 2 * r j2 + 1)), (0, .ref w), (1, .int (nI c)), (2, .int (nI b)), (3, .int (nI a)), (4, .int (nI t)), (5, .int (nI j2))]) hx hb dX4_scrapeAt_33 hl (by decide) rfl (fun ls hl => ?_)
          refine lv_aload hx hb dX4_scrapeAt_35 (lv_at hl 0 rfl) ?_
          refine lv_iload_n hx hb dX4_scrapeAt_37 rfl (lv_at hl 2 rfl) ?_
          refine z_iald hE hH (hW1.2.2.2.2 j2 (by omega)).2 (k := c) (by omega) (by decide) dX4_scrapeAt_38 ?_
          have q4 := hv1.coat (j := j2) (c := c) (by omega) (by omega)
          refine lv_iload hx hb dX4_scrapeAt_39 (lv_at hl 5 rfl) ?_
          refine z_min (rest := []) hE hl mkX4_60 (by omega) (by omega) ⟨Nat.le_of_ble_eq_true rfl, Nat.le_of_ble_eq_true rfl⟩ ⟨Nat.le_refl _, Nat.le_refl _⟩ dX4_scrapeAt_41 ?_
          refine lv_istore (lv' := [(7, .int (nI (min (cv u j2 c) t))), (6, .ref (w + 2 + 2 * r j2 + 1)), (0, .ref w), (1, .int (nI c)), (2, .int (nI b)), (3, .int (nI a)), (4, .int (nI t)), (5, .int (nI j2))]) hx hb dX4_scrapeAt_44 hl (by decide) rfl (fun ls hl => ?_)
          refine lv_aload hx hb dX4_scrapeAt_46 (lv_at hl 1 rfl) ?_
          refine lv_iload_n hx hb dX4_scrapeAt_48 rfl (lv_at hl 3 rfl) ?_
          refine lv_dup2_11 hx hb dX4_scrapeAt_49 rfl rfl ?_
          refine z_iald hE hH (hW1.2.2.2.2 j2 (by omega)).2 (k := c) (by omega) (by decide) dX4_scrapeAt_50 ?_
          have q5 := hv1.coat (j := j2) (c := c) (by omega) (by omega)
          refine lv_iload hx hb dX4_scrapeAt_51 (lv_at hl 0 rfl) ?_
          refine n_isub hx hb (by omega) dX4_scrapeAt_53 ?_
          refine z_iast hE hH hS (hW1.2.2.2.2 j2 (by omega)).2 (k := c) (by omega) (by decide) (by omega) dX4_scrapeAt_54 (fun H locs M8 hH hS e6 o7 => ?_)
          have q9 := hr.1 j2 (by omega)
          have hW10 := WlR.setC (j := j2) (c := c) hr (by omega) hW1 (by omega) (by omega) e6 o7
          have q11 := cv_setC_self u (j := j2) (c := c) ((cv u j2 c) - (min (cv u j2 c) t))
          have hv12 : wOk (vset u (98 + 60 * j2 + c) ((cv u j2 c) - (min (cv u j2 c) t))) := (hv1.decC (by omega) (by omega) (by omega))
          have z13 : (vset u (98 + 60 * j2 + c) ((cv u j2 c) - (min (cv u j2 c) t))) 0 = u 0 := fset_ne _ _ (by omega)
          have hF14 := fun q hq => (o7 q (by omega)).trans (hF1 q hq)
          refine lv_iload hx hb dX4_scrapeAt_55 (lv_at hl 6 rfl) ?_
          refine lv_iload hx hb dX4_scrapeAt_57 (lv_at hl 0 rfl) ?_
          refine n_isub hx hb (by omega) dX4_scrapeAt_59 ?_
          refine lv_istore (lv' := [(4, .int (nI (t - (min (cv u j2 c) t)))), (7, .int (nI (min (cv u j2 c) t))), (6, .ref (w + 2 + 2 * r j2 + 1)), (0, .ref w), (1, .int (nI c)), (2, .int (nI b)), (3, .int (nI a)), (5, .int (nI j2))]) hx hb dX4_scrapeAt_60 hl (by decide) rfl (fun ls hl => ?_)
          refine lv_iload hx hb dX4_scrapeAt_62 (lv_at hl 1 rfl) ?_
          refine n_if_le (tgt := 77) hx hb (by omega) dX4_scrapeAt_64 (by decide) (fun h15 => ?_) (fun h15 => ?_)
          · refine lv_iinc (v := (nI j2 - nI 1)) (lv' := [(5, .int (nI j2 - nI 1)), (4, .int (nI (t - (min (cv u j2 c) t)))), (7, .int (nI (min (cv u j2 c) t))), (6, .ref (w + 2 + 2 * r j2 + 1)), (0, .ref w), (1, .int (nI c)), (2, .int (nI b)), (3, .int (nI a))]) hx hb dX4_scrapeAt_77 hl (k := 7) rfl (nI_dec1 _) (by decide) rfl (fun ls hl => ?_)
            refine lv_goto (tgt := 13) hx hb dX4_scrapeAt_80 (by decide) ?_
            exact ih  j2 (t - (min (cv u j2 c) t)) a (vset u (98 + 60 * j2 + c) ((cv u j2 c) - (min (cv u j2 c) t))) M8 (by omega) hW10 hv12 hF14 (by omega) (by omega) (by omega) (by rw [← hs, scrV_succ, if_neg (by omega)]) (by rw [← ha, scrN_succ, if_neg (by omega)]; (first | rw [if_pos (by omega)] | rw [if_neg (by omega)]); omega) _ _ hH hS _ (lv_sub hl [4, 5, 6, 7, 1, 0] rfl)
          · refine lv_aload hx hb dX4_scrapeAt_67 (lv_at hl 2 rfl) ?_
            refine lv_iload_n hx hb dX4_scrapeAt_69 rfl (lv_at hl 4 rfl) ?_
            refine z_iald hE hH (hW10.2.2.2.2 j2 (by omega)).2 (k := c) (by omega) (by decide) dX4_scrapeAt_70 ?_
            have q16 := hv12.coat (j := j2) (c := c) (by omega) (by omega)
            refine n_if_ne (tgt := 77) hx hb (by omega) dX4_scrapeAt_71 (by decide) (fun h17 => ?_) (fun h17 => ?_)
            · refine lv_iinc (v := (nI j2 - nI 1)) (lv' := [(5, .int (nI j2 - nI 1)), (4, .int (nI (t - (min (cv u j2 c) t)))), (7, .int (nI (min (cv u j2 c) t))), (6, .ref (w + 2 + 2 * r j2 + 1)), (0, .ref w), (1, .int (nI c)), (2, .int (nI b)), (3, .int (nI a))]) hx hb dX4_scrapeAt_77 hl (k := 7) rfl (nI_dec1 _) (by decide) rfl (fun ls hl => ?_)
              refine lv_goto (tgt := 13) hx hb dX4_scrapeAt_80 (by decide) ?_
              exact ih  j2 (t - (min (cv u j2 c) t)) a (vset u (98 + 60 * j2 + c) ((cv u j2 c) - (min (cv u j2 c) t))) M8 (by omega) hW10 hv12 hF14 (by omega) (by omega) (by omega) (by rw [← hs, scrV_succ, if_neg (by omega)]) (by rw [← ha, scrN_succ, if_neg (by omega)]; (first | rw [if_pos (by omega)] | rw [if_neg (by omega)]); omega) _ _ hH hS _ (lv_sub hl [4, 5, 6, 7, 1, 0] rfl)
            · refine lv_iinc (v := (nI (a + 1))) (lv' := [(3, .int (nI (a + 1))), (4, .int (nI (t - (min (cv u j2 c) t)))), (7, .int (nI (min (cv u j2 c) t))), (6, .ref (w + 2 + 2 * r j2 + 1)), (0, .ref w), (1, .int (nI c)), (2, .int (nI b)), (5, .int (nI j2))]) hx hb dX4_scrapeAt_74 hl (k := 6) rfl (nI_inc _) (by decide) rfl (fun ls hl => ?_)
              refine lv_iinc (v := (nI j2 - nI 1)) (lv' := [(5, .int (nI j2 - nI 1)), (3, .int (nI (a + 1))), (4, .int (nI (t - (min (cv u j2 c) t)))), (7, .int (nI (min (cv u j2 c) t))), (6, .ref (w + 2 + 2 * r j2 + 1)), (0, .ref w), (1, .int (nI c)), (2, .int (nI b))]) hx hb dX4_scrapeAt_77 hl (k := 7) rfl (nI_dec1 _) (by decide) rfl (fun ls hl => ?_)
              refine lv_goto (tgt := 13) hx hb dX4_scrapeAt_80 (by decide) ?_
              exact ih  j2 (t - (min (cv u j2 c) t)) (a + 1) (vset u (98 + 60 * j2 + c) ((cv u j2 c) - (min (cv u j2 c) t))) M8 (by omega) hW10 hv12 hF14 (by omega) (by omega) (by omega) (by rw [← hs, scrV_succ, if_neg (by omega)]) (by rw [← ha, scrN_succ, if_neg (by omega)]; (first | rw [if_pos (by omega)] | rw [if_neg (by omega)]); omega) _ _ hH hS _ (lv_sub hl [5, 6, 7, 1, 2, 0] rfl)
  exact L13 (v 0 + 1) (v 0) b 0 v M (by omega) hW hv hF rfl (Nat.le_refl _) (by omega) rfl (Nat.zero_add _) _ _ hH hS _ (lv_sub hl [3, 4, 5, 2, 1, 0] rfl)

set_option maxHeartbeats 4000000 in
set_option maxRecDepth 100000 in
theorem c_X4_fadeAt (l : Launch) (G : zG) (B0 : Nat) (M : Mm) (w : Nat) (r : Nat → Nat) (v : Wv) (hW : WlR G w r v M) (hr : rOk r) (hv : wOk v) (hBw : B0 ≤ w) (c b : Nat) (hc : c < 60) (hb3 : b ≤ 300) : zMet l yX4_fadeAt cX4_fadeAt 8 (some .int) 2 0 0 G B0 M [.ref w, .int (nI c), .int (nI b)] (some (.int (nI (fadN c (v 0) v b)))) (fun M1 => WlR G w r (fadV c (v 0) v b) M1 ∧ ∀ q, (q < w ∨ w + 27 ≤ q) → M1 q = M q) := by
  refine z_met RX4 [(0, .ref w), (1, .int (nI c)), (2, .int (nI b))] (by decide) rfl (Nat.le_of_ble_eq_true rfl) rfl ?_
  intro pg ev s m below meth cd ls hE hin hB0 hH hl
  have hx := hE.1
  have hb := hE.2.1
  have hn := hv.1
  have hF : ∀ q, (q < w ∨ w + 27 ≤ q) → M q = M q := fun _ _ => rfl
  refine z_gen B0 (fun H locs hH hS => ?_) hH
  refine n_iconst hx hb 0 dX4_fadeAt_0 (by decide) ?_
  refine lv_istore_n (lv' := [(3, .int (nI 0)), (0, .ref w), (1, .int (nI c)), (2, .int (nI b))]) hx hb dX4_fadeAt_1 rfl hl (by decide) rfl (fun ls hl => ?_)
  refine lv_iload_n hx hb dX4_fadeAt_2 rfl (lv_at hl 3 rfl) ?_
  refine lv_istore (lv' := [(4, .int (nI b)), (3, .int (nI 0)), (0, .ref w), (1, .int (nI c)), (2, .int (nI b))]) hx hb dX4_fadeAt_3 hl (by decide) rfl (fun ls hl => ?_)
  refine lv_aload_n hx hb dX4_fadeAt_5 rfl (lv_at hl 2 rfl) ?_
  refine z_get (T := TX4) (v := .int (nI (v 0))) hE hH hW.1 rfl uw_X4 1 (by decide) fkX4_22 rfl dX4_fadeAt_6 ?_
  refine n_iconst hx hb 1 dX4_fadeAt_9 (by decide) ?_
  refine lv_isub hx hb dX4_fadeAt_10 ?_
  refine lv_istore (lv' := [(5, .int (nI (v 0) - nI 1)), (4, .int (nI b)), (3, .int (nI 0)), (0, .ref w), (1, .int (nI c)), (2, .int (nI b))]) hx hb dX4_fadeAt_11 hl (by decide) rfl (fun ls hl => ?_)
  have L13 : ∀ (dd : Nat) (n : Nat) (t : Nat) (a : Nat) (u : Wv) (M1 : Mm), n < dd → (WlR G w r u M1) → (wOk u) → (∀ q, (q < w ∨ w + 27 ≤ q) → M1 q = M q) → (u 0 = v 0) → (n ≤ v 0) → (t ≤ 300) → (fadV c n u t = fadV c (v 0) v b) → (a + fadN c n u t = fadN c (v 0) v b) → ∀ (H : Heap) (locs : List Loc), zH G M1 H → zS 0 B0 s.heap H locs → ∀ (ls : Array Slot), lv_has ls 8 [(0, .ref w), (1, .int (nI c)), (2, .int (nI b)), (3, .int (nI a)), (4, .int (nI t)), (5, .int (nI n - nI 1))] → zW pg l ev 2 0 0 s m [.ref w, .int (nI c), .int (nI b)] below meth cd H locs 0 0 G B0 (some (.int (nI (fadN c (v 0) v b)))) (fun M1 => WlR G w r (fadV c (v 0) v b) M1 ∧ ∀ q, (q < w ∨ w + 27 ≤ q) → M1 q = M q) (F0 m 13 ls []) := by
    intro dd
    induction dd with
    | zero =>
      intro n t a u M1 hdd hW1 hv1 hF1 hu0 hnn ht hs ha
      exact absurd hdd (by omega)
    | succ dd ih =>
      intro n t a u M1 hdd hW1 hv1 hF1 hu0 hnn ht hs ha H locs hH hS ls hl
      have hn1 := hv1.1
      refine lv_iload hx hb dX4_fadeAt_13 (lv_at hl 5 rfl) ?_
      refine n_down_lt (tgt := 102) hx hb (by omega) dX4_fadeAt_15 (by decide) (fun h1 => ?_) (fun j2 h1 => ?_)
      · refine lv_iload_n hx hb dX4_fadeAt_102 rfl (lv_at hl 3 rfl) ?_
        exact z_iret hE hH hS (by rw [← ha]; first | (rw [show t = 0 by omega, fadN_z]; rfl) | (rw [show n = 0 by omega]; rfl)) ⟨by rw [← hs]; first | (rw [show t = 0 by omega, fadV_z]; exact hW1) | (rw [show n = 0 by omega]; exact hW1), hF1⟩ dX4_fadeAt_103
      · subst h1
        rw [nI_down] at hl
        refine lv_iload hx hb dX4_fadeAt_18 (lv_at hl 4 rfl) ?_
        refine n_if_le (tgt := 102) hx hb (by omega) dX4_fadeAt_20 (by decide) (fun h3 => ?_) (fun h3 => ?_)
        · refine lv_iload_n hx hb dX4_fadeAt_102 rfl (lv_at hl 3 rfl) ?_
          exact z_iret hE hH hS (by rw [← ha]; first | (rw [show t = 0 by omega, fadN_z]; rfl) | (rw [show n = 0 by omega]; rfl)) ⟨by rw [← hs]; first | (rw [show t = 0 by omega, fadV_z]; exact hW1) | (rw [show n = 0 by omega]; exact hW1), hF1⟩ dX4_fadeAt_103
        · refine lv_aload_n hx hb dX4_fadeAt_23 rfl (lv_at hl 0 rfl) ?_
          refine z_get (T := TX4) (v := .ref (w + 1)) hE hH hW1.1 rfl uw_X4 0 (by decide) fkX4_11 rfl dX4_fadeAt_24 ?_
          refine lv_iload hx hb dX4_fadeAt_27 (lv_at hl 5 rfl) ?_
          refine z_aald hE hH hW1.2.1 rfl (k := j2) (by omega) (by decide) dX4_fadeAt_29 ?_
          refine z_get (T := TX3) (v := .ref (w + 2 + 2 * r j2 + 1)) hE hH (hW1.2.2.2.2 j2 (by omega)).1 rfl uw_X3 7 (by decide) fkX4_53 rfl dX4_fadeAt_30 ?_
          refine lv_astore (lv' := [(6, .ref (w + 2 + 2 * r j2 + 1)), (0, .ref w), (1, .int (nI c)), (2, .int (nI b)), (3, .int (nI a)), (4, .int (nI t)), (5, .int (nI j2))]) hx hb dX4_fadeAt_33 hl (by decide) rfl (fun ls hl => ?_)
          refine lv_aload_n hx hb dX4_fadeAt_35 rfl (lv_at hl 1 rfl) ?_
          refine lv_iload hx hb dX4_fadeAt_36 (lv_at hl 6 rfl) ?_
          refine lv_iload_n hx hb dX4_fadeAt_38 rfl (lv_at hl 2 rfl) ?_
          refine z_callV (rest := []) (st2 := [.int (nI (dtc (cv u j2 c) (sv u (c % 10))))]) hE hH hS hB0 hl ca_X4_daysToClear mkX4_74 (c_X4_daysToClear l G B0 M1 w r u hW1 hr hv1 j2 c (by omega) (by omega)) hW1.1 rfl rfl rfl rfl rfl ⟨Nat.le_of_ble_eq_true rfl, Nat.le_of_ble_eq_true rfl⟩ (Nat.le_of_ble_eq_true rfl) ⟨Nat.le_refl _, Nat.le_refl _⟩ dX4_fadeAt_39 (fun H locs M1 hH hp hS => ?_)
          subst hp
          have q4 := dtc_le (u := sv u (c % 10)) (hv1.coat (j := j2) (c := c) (by omega) (by omega))
          refine lv_istore (lv' := [(7, .int (nI (dtc (cv u j2 c) (sv u (c % 10))))), (6, .ref (w + 2 + 2 * r j2 + 1)), (0, .ref w), (1, .int (nI c)), (2, .int (nI b)), (3, .int (nI a)), (4, .int (nI t)), (5, .int (nI j2))]) hx hb dX4_fadeAt_42 hl (by decide) rfl (fun ls hl => ?_)
          refine lv_iload hx hb dX4_fadeAt_44 (lv_at hl 0 rfl) ?_
          refine lv_iload hx hb dX4_fadeAt_46 (lv_at hl 6 rfl) ?_
          refine n_cmp_le (tgt := 76) hx hb (by omega) (by omega) dX4_fadeAt_48 (by decide) (fun h5 => ?_) (fun h5 => ?_)
          · refine lv_iload hx hb dX4_fadeAt_76 (lv_at hl 0 rfl) ?_
            refine n_if_le (tgt := 96) hx hb (by omega) dX4_fadeAt_78 (by decide) (fun h6 => ?_) (fun h6 => ?_)
            · refine lv_iinc (v := (nI j2 - nI 1)) (lv' := [(5, .int (nI j2 - nI 1)), (7, .int (nI (dtc (cv u j2 c) (sv u (c % 10))))), (6, .ref (w + 2 + 2 * r j2 + 1)), (0, .ref w), (1, .int (nI c)), (2, .int (nI b)), (3, .int (nI a)), (4, .int (nI t))]) hx hb dX4_fadeAt_96 hl (k := 7) rfl (nI_dec1 _) (by decide) rfl (fun ls hl => ?_)
              refine lv_goto (tgt := 13) hx hb dX4_fadeAt_99 (by decide) ?_
              exact ih  j2 t a u M1 (by omega) hW1 hv1 hF1 (by omega) (by omega) (by omega) (by rw [← hs, fadV_succ, if_neg (by omega)]; first | rw [if_pos (by omega), fadV_z] | rw [if_neg (by omega), if_pos (by omega)] | rw [if_neg (by omega), if_neg (by omega)]) (by rw [← ha, fadN_succ, if_neg (by omega)]; first | (rw [if_pos (by omega), fadN_z]; done) | (rw [if_neg (by omega), if_pos (by omega)]; omega) | (rw [if_neg (by omega), if_neg (by omega)]; done)) _ _ hH hS _ (lv_sub hl [3, 4, 5, 6, 7, 0] rfl)
            · refine lv_aload hx hb dX4_fadeAt_81 (lv_at hl 1 rfl) ?_
              refine lv_iload_n hx hb dX4_fadeAt_83 rfl (lv_at hl 3 rfl) ?_
              refine n_iconst hx hb 0 dX4_fadeAt_84 (by decide) ?_
              refine z_iast hE hH hS (hW1.2.2.2.2 j2 (by omega)).2 (k := c) (by omega) (by decide) (by omega) dX4_fadeAt_85 (fun H locs M9 hH hS e7 o8 => ?_)
              have q10 := hr.1 j2 (by omega)
              have hW11 := WlR.setC (j := j2) (c := c) hr (by omega) hW1 (by omega) (by omega) e7 o8
              have q12 := cv_setC_self u (j := j2) (c := c) 0
              have hv13 : wOk (vset u (98 + 60 * j2 + c) 0) := (hv1.decC (by omega) (by omega) (by first | exact Nat.zero_le _ | exact Nat.sub_le _ _))
              have z14 : (vset u (98 + 60 * j2 + c) 0) 0 = u 0 := fset_ne _ _ (by omega)
              have hF15 := fun q hq => (o8 q (by omega)).trans (hF1 q hq)
              refine lv_iload hx hb dX4_fadeAt_86 (lv_at hl 6 rfl) ?_
              refine lv_iload hx hb dX4_fadeAt_88 (lv_at hl 0 rfl) ?_
              refine n_isub hx hb (by omega) dX4_fadeAt_90 ?_
              refine lv_istore (lv' := [(4, .int (nI (t - (dtc (cv u j2 c) (sv u (c % 10)))))), (7, .int (nI (dtc (cv u j2 c) (sv u (c % 10))))), (6, .ref (w + 2 + 2 * r j2 + 1)), (0, .ref w), (1, .int (nI c)), (2, .int (nI b)), (3, .int (nI a)), (5, .int (nI j2))]) hx hb dX4_fadeAt_91 hl (by decide) rfl (fun ls hl => ?_)
              refine lv_iinc (v := (nI (a + 1))) (lv' := [(3, .int (nI (a + 1))), (4, .int (nI (t - (dtc (cv u j2 c) (sv u (c % 10)))))), (7, .int (nI (dtc (cv u j2 c) (sv u (c % 10))))), (6, .ref (w + 2 + 2 * r j2 + 1)), (0, .ref w), (1, .int (nI c)), (2, .int (nI b)), (5, .int (nI j2))]) hx hb dX4_fadeAt_93 hl (k := 6) rfl (nI_inc _) (by decide) rfl (fun ls hl => ?_)
              refine lv_iinc (v := (nI j2 - nI 1)) (lv' := [(5, .int (nI j2 - nI 1)), (3, .int (nI (a + 1))), (4, .int (nI (t - (dtc (cv u j2 c) (sv u (c % 10)))))), (7, .int (nI (dtc (cv u j2 c) (sv u (c % 10))))), (6, .ref (w + 2 + 2 * r j2 + 1)), (0, .ref w), (1, .int (nI c)), (2, .int (nI b))]) hx hb dX4_fadeAt_96 hl (k := 7) rfl (nI_dec1 _) (by decide) rfl (fun ls hl => ?_)
              refine lv_goto (tgt := 13) hx hb dX4_fadeAt_99 (by decide) ?_
              exact ih  j2 (t - (dtc (cv u j2 c) (sv u (c % 10)))) (a + 1) (vset u (98 + 60 * j2 + c) 0) M9 (by omega) hW11 hv13 hF15 (by omega) (by omega) (by omega) (by rw [← hs, fadV_succ, if_neg (by omega)]; first | rw [if_pos (by omega), fadV_z] | rw [if_neg (by omega), if_pos (by omega)] | rw [if_neg (by omega), if_neg (by omega)]) (by rw [← ha, fadN_succ, if_neg (by omega)]; first | (rw [if_pos (by omega), fadN_z]; done) | (rw [if_neg (by omega), if_pos (by omega)]; omega) | (rw [if_neg (by omega), if_neg (by omega)]; done)) _ _ hH hS _ (lv_sub hl [5, 6, 7, 1, 2, 0] rfl)
          · refine lv_aload hx hb dX4_fadeAt_51 (lv_at hl 1 rfl) ?_
            refine lv_iload_n hx hb dX4_fadeAt_53 rfl (lv_at hl 3 rfl) ?_
            refine lv_dup2_11 hx hb dX4_fadeAt_54 rfl rfl ?_
            refine z_iald hE hH (hW1.2.2.2.2 j2 (by omega)).2 (k := c) (by omega) (by decide) dX4_fadeAt_55 ?_
            have q16 := hv1.coat (j := j2) (c := c) (by omega) (by omega)
            refine lv_iload hx hb dX4_fadeAt_56 (lv_at hl 6 rfl) ?_
            refine lv_aload_n hx hb dX4_fadeAt_58 rfl (lv_at hl 2 rfl) ?_
            refine z_get (T := TX4) (v := .ref (w + 26)) hE hH hW1.1 rfl uw_X4 2 (by decide) fkX4_18 rfl dX4_fadeAt_59 ?_
            refine lv_iload_n hx hb dX4_fadeAt_62 rfl (lv_at hl 3 rfl) ?_
            refine n_bipush hx hb 10 dX4_fadeAt_63 (by decide) ?_
            refine n_irem hx hb (by omega) (by decide) (by decide) dX4_fadeAt_65 ?_
            refine z_iald hE hH hW1.2.2.1 (k := c % 10) (by omega) (by decide) dX4_fadeAt_66 ?_
            have q17 := hv1.2.2.1 (c % 10) (by omega)
            refine n_imul hx hb dX4_fadeAt_67 ?_
            refine n_isub hx hb (dtc_gt (by assumption)) dX4_fadeAt_68 ?_
            refine z_iast hE hH hS (hW1.2.2.2.2 j2 (by omega)).2 (k := c) (by omega) (by decide) (by omega) dX4_fadeAt_69 (fun H locs M20 hH hS e18 o19 => ?_)
            have q21 := hr.1 j2 (by omega)
            have hW22 := WlR.setC (j := j2) (c := c) hr (by omega) hW1 (by omega) (by omega) e18 o19
            have q23 := cv_setC_self u (j := j2) (c := c) ((cv u j2 c) - (t * (sv u (c % 10))))
            have hv24 : wOk (vset u (98 + 60 * j2 + c) ((cv u j2 c) - (t * (sv u (c % 10))))) := (hv1.decC (by omega) (by omega) (by first | exact Nat.zero_le _ | exact Nat.sub_le _ _))
            have z25 : (vset u (98 + 60 * j2 + c) ((cv u j2 c) - (t * (sv u (c % 10))))) 0 = u 0 := fset_ne _ _ (by omega)
            have hF26 := fun q hq => (o19 q (by omega)).trans (hF1 q hq)
            refine n_iconst hx hb 0 dX4_fadeAt_70 (by decide) ?_
            refine lv_istore (lv' := [(4, .int (nI 0)), (7, .int (nI (dtc (cv u j2 c) (sv u (c % 10))))), (6, .ref (w + 2 + 2 * r j2 + 1)), (0, .ref w), (1, .int (nI c)), (2, .int (nI b)), (3, .int (nI a)), (5, .int (nI j2))]) hx hb dX4_fadeAt_71 hl (by decide) rfl (fun ls hl => ?_)
            refine lv_goto (tgt := 96) hx hb dX4_fadeAt_73 (by decide) ?_
            refine lv_iinc (v := (nI j2 - nI 1)) (lv' := [(5, .int (nI j2 - nI 1)), (4, .int (nI 0)), (7, .int (nI (dtc (cv u j2 c) (sv u (c % 10))))), (6, .ref (w + 2 + 2 * r j2 + 1)), (0, .ref w), (1, .int (nI c)), (2, .int (nI b)), (3, .int (nI a))]) hx hb dX4_fadeAt_96 hl (k := 7) rfl (nI_dec1 _) (by decide) rfl (fun ls hl => ?_)
            refine lv_goto (tgt := 13) hx hb dX4_fadeAt_99 (by decide) ?_
            exact ih  j2 0 a (vset u (98 + 60 * j2 + c) ((cv u j2 c) - (t * (sv u (c % 10))))) M20 (by omega) hW22 hv24 hF26 (by omega) (by omega) (by omega) (by rw [← hs, fadV_succ, if_neg (by omega)]; first | rw [if_pos (by omega), fadV_z] | rw [if_neg (by omega), if_pos (by omega)] | rw [if_neg (by omega), if_neg (by omega)]) (by rw [← ha, fadN_succ, if_neg (by omega)]; first | (rw [if_pos (by omega), fadN_z]; done) | (rw [if_neg (by omega), if_pos (by omega)]; omega) | (rw [if_neg (by omega), if_neg (by omega)]; done)) _ _ hH hS _ (lv_sub hl [4, 5, 6, 7, 1, 0] rfl)
  exact L13 (v 0 + 1) (v 0) b 0 v M (by omega) hW hv hF rfl (Nat.le_refl _) (by omega) rfl (Nat.zero_add _) _ _ hH hS _ (lv_sub hl [3, 4, 5, 2, 1, 0] rfl)

set_option maxHeartbeats 4000000 in
set_option maxRecDepth 100000 in
theorem c_X4_fade (l : Launch) (G : zG) (B0 : Nat) (M : Mm) (w : Nat) (r : Nat → Nat) (v : Wv) (hW : WlR G w r v M) (hr : rOk r) (hv : wOk v) (hBw : B0 ≤ w) (b : Nat) (hb3 : b ≤ 300) : zMet l yX4_fade cX4_fade 4 (some .int) 3 0 0 G B0 M [.ref w, .int (nI b)] (some (.int (nI (fadS v b)))) (fun M1 => WlR G w r (fadA v b 60) M1 ∧ ∀ q, (q < w ∨ w + 27 ≤ q) → M1 q = M q) := by
  refine z_met RX4 [(0, .ref w), (1, .int (nI b))] (by decide) rfl (Nat.le_of_ble_eq_true rfl) rfl ?_
  intro pg ev s m below meth cd ls hE hin hB0 hH hl
  have hx := hE.1
  have hb := hE.2.1
  have hn := hv.1
  have hF : ∀ q, (q < w ∨ w + 27 ≤ q) → M q = M q := fun _ _ => rfl
  refine z_gen B0 (fun H locs hH hS => ?_) hH
  refine n_iconst hx hb 0 dX4_fade_0 (by decide) ?_
  refine lv_istore_n (lv' := [(2, .int (nI 0)), (0, .ref w), (1, .int (nI b))]) hx hb dX4_fade_1 rfl hl (by decide) rfl (fun ls hl => ?_)
  refine n_iconst hx hb 0 dX4_fade_2 (by decide) ?_
  refine lv_istore_n (lv' := [(3, .int (nI 0)), (2, .int (nI 0)), (0, .ref w), (1, .int (nI b))]) hx hb dX4_fade_3 rfl hl (by decide) rfl (fun ls hl => ?_)
  have L4 : ∀ (dd : Nat) (k : Nat) (a : Nat) (u : Wv) (M1 : Mm), 60 < k + dd → (k ≤ 60) → (WlR G w r u M1) → (wOk u) → (∀ q, (q < w ∨ w + 27 ≤ q) → M1 q = M q) → (u = fadA v b k) → (a = zsum (fun k => fadN k (v 0) (fadA v b k) b) k) → ∀ (H : Heap) (locs : List Loc), zH G M1 H → zS 0 B0 s.heap H locs → ∀ (ls : Array Slot), lv_has ls 4 [(0, .ref w), (1, .int (nI b)), (2, .int (nI a)), (3, .int (nI k))] → zW pg l ev 3 0 0 s m [.ref w, .int (nI b)] below meth cd H locs 0 0 G B0 (some (.int (nI (fadS v b)))) (fun M1 => WlR G w r (fadA v b 60) M1 ∧ ∀ q, (q < w ∨ w + 27 ≤ q) → M1 q = M q) (F0 m 4 ls []) := by
    intro dd
    induction dd with
    | zero =>
      intro k a u M1 hdd hk hW1 hv1 hF1 hu ha
      exact absurd hdd (by omega)
    | succ dd ih =>
      intro k a u M1 hdd hk hW1 hv1 hF1 hu ha H locs hH hS ls hl
      have hn1 := hv1.1
      have hu0 : u 0 = v 0 := by rw [hu]; exact (fadA_keep hv b k hk).2 0 (by decide)
      refine lv_iload_n hx hb dX4_fade_4 rfl (lv_at hl 3 rfl) ?_
      refine n_bipush hx hb 60 dX4_fade_5 (by decide) ?_
      refine n_cmp_ge (tgt := 25) hx hb (by omega) (by decide) dX4_fade_7 (by decide) (fun h1 => ?_) (fun h1 => ?_)
      · refine lv_iload_n hx hb dX4_fade_25 rfl (lv_at hl 2 rfl) ?_
        exact z_iret hE hH hS (by have hkk : k = 60 := (by omega); subst hkk; rw [ha]; first | done | rfl) ⟨by have hkk : k = 60 := (by omega); subst hkk; rw [← hu]; exact hW1, hF1⟩ dX4_fade_26
      · refine lv_iload_n hx hb dX4_fade_10 rfl (lv_at hl 2 rfl) ?_
        refine lv_aload_n hx hb dX4_fade_11 rfl (lv_at hl 0 rfl) ?_
        refine lv_iload_n hx hb dX4_fade_12 rfl (lv_at hl 3 rfl) ?_
        refine lv_iload_n hx hb dX4_fade_13 rfl (lv_at hl 1 rfl) ?_
        refine z_callV (rest := [.int (nI a)]) (st2 := [.int (nI (fadN k (u 0) u b)), .int (nI a)]) hE hH hS hB0 hl ca_X4_fadeAt mkX4_71 (c_X4_fadeAt l G B0 M1 w r u hW1 hr hv1 (by omega) k b (by omega) (by omega)) hW1.1 rfl rfl rfl rfl rfl ⟨Nat.le_of_ble_eq_true rfl, Nat.le_of_ble_eq_true rfl⟩ (Nat.le_of_ble_eq_true rfl) ⟨Nat.le_refl _, Nat.le_refl _⟩ dX4_fade_14 (fun H locs M2 hH hp hS => ?_)
        obtain ⟨hW3, hG4⟩ := hp
        have hv5 : wOk (fadV k (u 0) u b) := (fadV_keep k (by omega) _ _ _ hv1 (Nat.le_refl _)).1
        have hF6 := fun q hq => (hG4 q hq).trans (hF1 q hq)
        refine n_iadd hx hb dX4_fade_17 ?_
        refine lv_istore_n (lv' := [(2, .int (nI (a + (fadN k (u 0) u b)))), (0, .ref w), (1, .int (nI b)), (3, .int (nI k))]) hx hb dX4_fade_18 rfl hl (by decide) rfl (fun ls hl => ?_)
        refine lv_iinc (v := (nI (k + 1))) (lv' := [(3, .int (nI (k + 1))), (2, .int (nI (a + (fadN k (u 0) u b)))), (0, .ref w), (1, .int (nI b))]) hx hb dX4_fade_19 hl (k := 3) rfl (nI_inc _) (by decide) rfl (fun ls hl => ?_)
        refine lv_goto (tgt := 4) hx hb dX4_fade_22 (by decide) ?_
        exact ih  (k + 1) (a + (fadN k (u 0) u b)) (fadV k (u 0) u b) M2 (by omega) (by omega) hW3 hv5 hF6 (by rw [hu0, hu]; rfl) (by unfold zsum; rw [← ha, ← hu, hu0]) _ _ hH hS _ (lv_sub hl [2, 3, 1, 0] rfl)
  exact L4 61 0 0 v M (by omega) (by omega) hW hv hF rfl rfl _ _ hH hS _ (lv_sub hl [2, 3, 1, 0] rfl)
