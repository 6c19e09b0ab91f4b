/-! one cell's column under the sun -/
def col (v : Wv) (c : Nat) : Nat → Nat := fun j => cv v j c
def fC (s : Nat) : Nat → (Nat → Nat) → Nat → (Nat → Nat)
  | 0, g, _ => g
  | j + 1, g, t => if t = 0 then g else if t < dtc (g j) s then fset g j (g j - t * s) else if 0 < dtc (g j) s then fC s j (fset g j 0) (t - dtc (g j) s) else fC s j g t
def fK (s : Nat) : Nat → (Nat → Nat) → Nat → Nat
  | 0, _, _ => 0
  | j + 1, g, t => if t = 0 then 0 else if t < dtc (g j) s then 0 else if 0 < dtc (g j) s then 1 + fK s j (fset g j 0) (t - dtc (g j) s) else fK s j g t
theorem fC_succ (s j : Nat) (g : Nat → Nat) (t : Nat) : fC s (j + 1) g t = if t = 0 then g else if t < dtc (g j) s then fset g j (g j - t * s) else if 0 < dtc (g j) s then fC s j (fset g j 0) (t - dtc (g j) s) else fC s j g t := rfl
theorem fK_succ (s j : Nat) (g : Nat → Nat) (t : Nat) : fK s (j + 1) g t = if t = 0 then 0 else if t < dtc (g j) s then 0 else if 0 < dtc (g j) s then 1 + fK s j (fset g j 0) (t - dtc (g j) s) else fK s j g t := rfl
def tpG (g : Nat → Nat) : Nat → Option Nat
  | 0 => none
  | j + 1 => if 0 < g j then some j else tpG g j
theorem tpG_succ (g : Nat → Nat) (j : Nat) : tpG g (j + 1) = if 0 < g j then some j else tpG g j := rfl
def dC (s n : Nat) (g : Nat → Nat) : Nat → Nat := (tpG g n).elim g (fun j => fset g j (g j - s))
def dK (s n : Nat) (g : Nat → Nat) : Nat := (tpG g n).elim 0 (fun j => if g j ≤ s then 1 else 0)
theorem fC_0 (s n : Nat) (g : Nat → Nat) : fC s n g 0 = g := by
  cases n with
  | zero => rfl
  | succ n => rw [fC_succ, if_pos rfl]
theorem fK_0 (s n : Nat) (g : Nat → Nat) : fK s n g 0 = 0 := by
  cases n with
  | zero => rfl
  | succ n => rw [fK_succ, if_pos rfl]
theorem fset_id (g : Nat → Nat) (j : Nat) : fset g j (g j) = g := funext fun i => by
  unfold fset
  by_cases h : i = j
  · subst h; rw [if_pos rfl]
  · rw [if_neg h]
theorem fset_two (g : Nat → Nat) (j x y : Nat) : fset (fset g j x) j y = fset g j y := funext fun i => by
  unfold fset
  by_cases h : i = j
  · rw [if_pos h, if_pos h]
  · rw [if_neg h, if_neg h, if_neg h]
theorem tpG_some {g : Nat → Nat} : ∀ {n j : Nat}, tpG g n = some j → j < n ∧ 0 < g j
  | 0, _, h => by cases h
  | n + 1, j, h => by
    rw [tpG_succ] at h
    split at h
    · cases h; exact ⟨Nat.lt_succ_self _, by assumption⟩
    · have := tpG_some h; exact ⟨by omega, this.2⟩
theorem tpG_congr {g g' : Nat → Nat} : ∀ {n : Nat}, (∀ i, i < n → g i = g' i) → tpG g n = tpG g' n
  | 0, _ => rfl
  | n + 1, h => by rw [tpG_succ, tpG_succ, h n (by omega), tpG_congr (fun i hi => h i (by omega))]
theorem dtc_0 (s : Nat) : dtc 0 s = 0 := if_pos rfl
theorem dtc_z {x : Nat} (hx : 0 < x) : dtc x 0 = 1000000 := by
  unfold dtc; rw [if_neg (by omega), if_neg (by decide)]
theorem dtc_s {x s : Nat} (hx : 0 < x) (hs : 0 < s) : dtc x s = (x + s - 1) / s := by
  unfold dtc; rw [if_neg (by omega), if_pos hs]
theorem dtc_one {x s : Nat} (hx : 0 < x) (h : x ≤ s) : dtc x s = 1 := by
  rw [dtc_s hx (by omega)]
  exact Nat.div_eq_of_lt_le (by omega) (by omega)
theorem dtc_step {x s : Nat} (hs : 0 < s) (h : s < x) : dtc x s = dtc (x - s) s + 1 := by
  rw [dtc_s (by omega) hs, dtc_s (by omega) hs, show x + s - 1 = (x - s + s - 1) + s by omega, Nat.add_div_right _ hs]
theorem dtc_pos {x s : Nat} (hx : 0 < x) : 0 < dtc x s := by
  rcases Nat.eq_zero_or_pos s with rfl | hs
  · rw [dtc_z hx]; decide
  · rw [dtc_s hx hs]; exact Nat.div_pos (by omega) hs
theorem dtc_left {x s t : Nat} (hx : 0 < x) (h : t < dtc x s) : 0 < x - t * s := by
  rcases Nat.eq_zero_or_pos s with rfl | hs
  · omega
  · rw [dtc_s hx hs, Nat.lt_div_iff_mul_lt hs] at h
    have := Nat.mul_comm s t
    have h2 := Nat.mul_comm t s
    omega
theorem fC_skip {s n : Nat} {g : Nat → Nat} (h : g n = 0) (t : Nat) : fC s (n + 1) g t = fC s n g t ∧ fK s (n + 1) g t = fK s n g t := by
  rw [fC_succ, fK_succ, h, dtc_0]
  by_cases ht : t = 0
  · subst ht
    rw [if_pos rfl, if_pos rfl, fC_0, fK_0]; exact ⟨rfl, rfl⟩
  · rw [if_neg ht, if_neg (by omega), if_neg (by omega), if_neg ht, if_neg (by omega), if_neg (by omega)]; exact ⟨rfl, rfl⟩
theorem fC_part {s n t : Nat} {g : Nat → Nat} (h : t < dtc (g n) s) : fC s (n + 1) g t = fset g n (g n - t * s) ∧ fK s (n + 1) g t = 0 := by
  rw [fC_succ, fK_succ]
  by_cases ht : t = 0
  · subst ht
    rw [if_pos rfl, if_pos rfl, Nat.zero_mul, Nat.sub_zero, fset_id]; exact ⟨rfl, rfl⟩
  · rw [if_neg ht, if_pos h, if_neg ht, if_pos h]; exact ⟨rfl, rfl⟩
theorem fC_hit {s n t : Nat} {g : Nat → Nat} (h0 : 0 < g n) (h : dtc (g n) s ≤ t) : fC s (n + 1) g t = fC s n (fset g n 0) (t - dtc (g n) s) ∧ fK s (n + 1) g t = 1 + fK s n (fset g n 0) (t - dtc (g n) s) := by
  have := dtc_pos (s := s) h0
  rw [fC_succ, fK_succ, if_neg (by omega), if_neg (by omega), if_pos this, if_neg (by omega), if_neg (by omega), if_pos this]
  exact ⟨rfl, rfl⟩
theorem dC_ge {s n : Nat} {g : Nat → Nat} {j : Nat} (h : n ≤ j) : dC s n g j = g j := by
  unfold dC
  cases ht : tpG g n with
  | none => rfl
  | some i =>
    have := (tpG_some ht).1
    exact fset_ne g _ (by omega)
theorem fC_ge {s : Nat} : ∀ {n : Nat} {g : Nat → Nat} {t j : Nat}, n ≤ j → fC s n g t j = g j
  | 0, _, _, _, _ => rfl
  | n + 1, g, t, j, h => by
    by_cases h0 : 0 < g n
    · by_cases ht : t < dtc (g n) s
      · rw [(fC_part ht).1]; exact fset_ne g _ (by omega)
      · rw [(fC_hit h0 (by omega)).1, fC_ge (by omega)]; exact fset_ne g _ (by omega)
    · rw [(fC_skip (by omega) t).1, fC_ge (by omega)]
theorem fC_day (s : Nat) : ∀ (n : Nat) (g : Nat → Nat) (t : Nat), t + 1 < 1000000 → fC s n g (t + 1) = fC s n (dC s n g) t ∧ fK s n g (t + 1) = dK s n g + fK s n (dC s n g) t
  | 0, g, t, _ => ⟨rfl, rfl⟩
  | n + 1, g, t, ht => by
    by_cases hg : 0 < g n
    · have hd : dC s (n + 1) g = fset g n (g n - s) := by unfold dC; rw [tpG_succ, if_pos hg]; rfl
      have hk : dK s (n + 1) g = if g n ≤ s then 1 else 0 := by unfold dK; rw [tpG_succ, if_pos hg]; rfl
      have hgn : fset g n (g n - s) n = g n - s := fset_self _ _ _
      rw [hd, hk]
      by_cases hle : g n ≤ s
      · rw [if_pos hle, show g n - s = 0 by omega] at *
        have h1 := dtc_one hg hle
        obtain ⟨e1, e2⟩ := fC_hit (s := s) (t := t + 1) hg (by omega)
        obtain ⟨e3, e4⟩ := fC_skip (s := s) (g := fset g n 0) (n := n) (fset_self _ _ _) t
        rw [e1, e2, e3, e4, h1]
        exact ⟨rfl, rfl⟩
      · rw [if_neg hle]
        rcases Nat.eq_zero_or_pos s with rfl | hs
        · have h1 := dtc_z hg
          obtain ⟨e1, e2⟩ := fC_part (s := 0) (t := t + 1) (n := n) (g := g) (by omega)
          obtain ⟨e3, e4⟩ := fC_part (s := 0) (t := t) (n := n) (g := g) (by omega)
          rw [Nat.sub_zero, fset_id, e1, e2, e3, e4]
          exact ⟨rfl, rfl⟩
        · have h1 := dtc_step hs (show s < g n by omega)
          by_cases h2 : t + 1 < dtc (g n) s
          · obtain ⟨e1, e2⟩ := fC_part (s := s) h2
            obtain ⟨e3, e4⟩ := fC_part (s := s) (t := t) (n := n) (g := fset g n (g n - s)) (by rw [hgn]; omega)
            rw [e1, e2, e3, e4, hgn, fset_two, Nat.succ_mul, Nat.sub_sub, Nat.add_comm s]
            exact ⟨rfl, rfl⟩
          · obtain ⟨e1, e2⟩ := fC_hit (s := s) hg (by omega : dtc (g n) s ≤ t + 1)
            obtain ⟨e3, e4⟩ := fC_hit (s := s) (t := t) (n := n) (g := fset g n (g n - s)) (by rw [hgn]; omega) (by rw [hgn]; omega)
            rw [e1, e2, e3, e4, hgn, fset_two, show t + 1 - dtc (g n) s = t - dtc (g n - s) s by omega, Nat.zero_add]
            exact ⟨rfl, rfl⟩
    · have h0 : g n = 0 := by omega
      have hd : dC s (n + 1) g = dC s n g := by unfold dC; rw [tpG_succ, if_neg hg]
      have hk : dK s (n + 1) g = dK s n g := by unfold dK; rw [tpG_succ, if_neg hg]
      obtain ⟨e1, e2⟩ := fC_skip (s := s) h0 (t + 1)
      obtain ⟨e3, e4⟩ := fC_skip (s := s) (g := dC s n g) (n := n) (by rw [dC_ge (Nat.le_refl _)]; exact h0) t
      rw [hd, hk, e1, e2, e3, e4]
      exact fC_day s n g t ht
/-! the wall, cell by cell -/
theorem nI_ne6 {j : Nat} (h : j < 2 ^ 31) : nI j ≠ (-6) := fun q => by
  have := congrArg Int32.toInt q
  rw [nI_toInt h, show (-6 : Int32).toInt = -6 by decide] at this
  omega
theorem seen_tp {v : Wv} (hn : v 0 ≤ 12) (c : Nat) : seen v (-6) c = tpG (col v c) (v 0) := by
  unfold seen
  generalize hm : v 0 = m at *
  clear hm
  induction m with
  | zero => rfl
  | succ m ih =>
    rw [seenGo_succ, tpG_succ, ih (by omega)]
    by_cases h : 0 < cv v m c
    · rw [if_pos ⟨nI_ne6 (by omega), h⟩, if_pos (show 0 < col v c m from h)]
    · rw [if_neg (fun q => h q.2), if_neg (show ¬0 < col v c m from h)]
theorem seenGo_congr {u w : Wv} {b : Int32} {c : Nat} : ∀ {n : Nat}, (∀ j, j < n → cv u j c = cv w j c) → seenGo u b c n = seenGo w b c n
  | 0, _ => rfl
  | n + 1, h => by rw [seenGo_succ, seenGo_succ, h n (by omega), seenGo_congr (fun j hj => h j (by omega))]
theorem seen_congr {u w : Wv} {b : Int32} {c : Nat} (h0 : u 0 = w 0) (h : ∀ j, j < w 0 → cv u j c = cv w j c) : seen u b c = seen w b c := by
  unfold seen; rw [h0]; exact seenGo_congr h
theorem prc_congr {u w : Wv} {b : Int32} {c : Nat} (h0 : u 0 = w 0) (h : ∀ j, j < w 0 → cv u j c = cv w j c) (hp : ∀ j, j < w 0 → pv u j 4 = pv w j 4) : prc u b c = prc w b c := by
  unfold prc
  rw [seen_congr h0 h]
  cases hs : seen w b c with
  | none => rfl
  | some j => exact congrArg some (hp j (seen_lt hs))
theorem col_i (v : Wv) {i : Nat} (h : 98 ≤ i) : col v ((i - 98) % 60) ((i - 98) / 60) = v i := by
  show v (98 + 60 * ((i - 98) / 60) + (i - 98) % 60) = v i
  congr 1
  omega
theorem dayV_at {v : Wv} (hn : v 0 ≤ 12) : ∀ k, k ≤ 60 → ∀ i, dayV v k i = if 98 ≤ i ∧ (i - 98) % 60 < k then dC (sv v ((i - 98) % 60 % 10)) (v 0) (col v ((i - 98) % 60)) ((i - 98) / 60) else v i
  | 0, _, i => by rw [if_neg (by omega)]; rfl
  | k + 1, hk, i => by
    have ih := dayV_at hn k (by omega)
    have hs := seen_tp hn k
    cases ht : seen v (-6) k with
    | none =>
      rw [dayV_none ht, ih i]
      by_cases h : 98 ≤ i ∧ (i - 98) % 60 < k
      · rw [if_pos h, if_pos (by omega)]
      · rw [if_neg h]
        by_cases h2 : 98 ≤ i ∧ (i - 98) % 60 < k + 1
        · have e : (i - 98) % 60 = k := by omega
          rw [if_pos h2]
          have h3 := col_i v h2.1
          rw [e] at h3 ⊢
          unfold dC
          rw [← hs, ht]
          exact h3.symm
        · rw [if_neg h2]
    | some j =>
      rw [dayV_some ht]
      have hc : cv (dayV v k) j k = cv v j k := by
        show dayV v k (98 + 60 * j + k) = _
        rw [ih, if_neg (by omega)]; rfl
      have hu : sv (dayV v k) (k % 10) = sv v (k % 10) := by
        show dayV v k (4 + k % 10) = _
        rw [ih, if_neg (by omega)]; rfl
      rw [hc, hu]
      show fset _ _ _ _ = _
      by_cases hi : i = 98 + 60 * j + k
      · subst hi
        rw [fset_self, if_pos (by omega), show (98 + 60 * j + k - 98) % 60 = k by omega, show (98 + 60 * j + k - 98) / 60 = j by omega]
        unfold dC
        rw [← hs, ht]
        show _ = fset (col v k) j (col v k j - sv v (k % 10)) j
        rw [fset_self]; rfl
      · rw [fset_ne _ _ hi, ih i]
        by_cases h : 98 ≤ i ∧ (i - 98) % 60 < k
        · rw [if_pos h, if_pos (by omega)]
        · rw [if_neg h]
          by_cases h2 : 98 ≤ i ∧ (i - 98) % 60 < k + 1
          · have e : (i - 98) % 60 = k := by omega
            rw [if_pos h2]
            have h3 := col_i v h2.1
            rw [e] at h3 ⊢
            unfold dC
            rw [← hs, ht]
            show v i = fset (col v k) j (col v k j - sv v (k % 10)) ((i - 98) / 60)
            rw [fset_ne _ _ (by omega)]
            exact h3.symm
          · rw [if_neg h2]
theorem dayC_at {v : Wv} (hn : v 0 ≤ 12) {k : Nat} (hk : k < 60) : (if dayC v k = true then 1 else 0) = dK (sv v (k % 10)) (v 0) (col v k) := by
  have ih := dayV_at hn k (by omega)
  have hs := seen_tp hn k
  cases ht : seen v (-6) k with
  | none => rw [dayC_none ht, if_neg (by decide)]; unfold dK; rw [← hs, ht]; rfl
  | some j =>
    have hc : cv (dayV v k) j k = cv v j k := by
      show dayV v k (98 + 60 * j + k) = _
      rw [ih, if_neg (by omega)]; rfl
    have hu : sv (dayV v k) (k % 10) = sv v (k % 10) := by
      show dayV v k (4 + k % 10) = _
      rw [ih, if_neg (by omega)]; rfl
    rw [dayC_some ht, hc, hu]
    unfold dK
    rw [← hs, ht]
    show _ = if col v k j ≤ _ then 1 else 0
    by_cases h : cv v j k ≤ sv v (k % 10)
    · rw [decide_eq_true h, if_pos rfl, if_pos (show col v k j ≤ sv v (k % 10) from h)]
    · rw [decide_eq_false h, if_neg (by decide), if_neg (show ¬col v k j ≤ sv v (k % 10) from h)]
theorem dayW_at {v : Wv} (hn : v 0 ≤ 12) (i : Nat) : dayW v i = if i = 1 then v 1 + 1 else if 98 ≤ i then dC (sv v ((i - 98) % 60 % 10)) (v 0) (col v ((i - 98) % 60)) ((i - 98) / 60) else v i := by
  unfold dayW
  show fset _ _ _ _ = _
  by_cases h : i = 1
  · subst h
    rw [fset_self, if_pos rfl, dayV_at hn 60 (by omega), if_neg (by omega)]
  · rw [fset_ne _ _ h, if_neg h, dayV_at hn 60 (by omega)]
    by_cases h2 : 98 ≤ i
    · rw [if_pos ⟨h2, by omega⟩, if_pos h2]
    · rw [if_neg (fun q => h2 q.1), if_neg h2]
theorem dayW_col {v : Wv} (hn : v 0 ≤ 12) {c : Nat} (hc : c < 60) : col (dayW v) c = dC (sv v (c % 10)) (v 0) (col v c) := funext fun j => by
  show dayW v (98 + 60 * j + c) = _
  rw [dayW_at hn, if_neg (by omega), if_pos (by omega), show (98 + 60 * j + c - 98) % 60 = c by omega, show (98 + 60 * j + c - 98) / 60 = j by omega]
theorem dayW_sv {v : Wv} (hn : v 0 ≤ 12) {x : Nat} (hx : x < 10) : sv (dayW v) x = sv v x := by
  show dayW v (4 + x) = _
  rw [dayW_at hn, if_neg (by omega), if_neg (by omega)]; rfl
theorem dayW_0 {v : Wv} (hn : v 0 ≤ 12) : dayW v 0 = v 0 := by
  rw [dayW_at hn, if_neg (by omega), if_neg (by omega)]
theorem dysV_front (v : Wv) : ∀ t, dysV v (t + 1) = dysV (dayW v) t ∧ dysN v (t + 1) = dayN v + dysN (dayW v) t
  | 0 => ⟨rfl, by show 0 + _ = _ + 0; rw [Nat.zero_add]; rfl⟩
  | t + 1 => by
    obtain ⟨h1, h2⟩ := dysV_front v t
    refine ⟨by show dayW (dysV v (t + 1)) = dayW (dysV (dayW v) t); rw [h1], ?_⟩
    show dysN v (t + 1) + dayN (dysV v (t + 1)) = dayN v + (dysN (dayW v) t + dayN (dysV (dayW v) t))
    rw [h2, h1, Nat.add_assoc]
theorem zsum_add (f g : Nat → Nat) : ∀ n, zsum (fun k => f k + g k) n = zsum f n + zsum g n
  | 0 => rfl
  | n + 1 => by
    show _ + (f n + g n) = (_ + f n) + (_ + g n)
    rw [zsum_add f g n]; omega
theorem zsum_congr {f g : Nat → Nat} : ∀ {n : Nat}, (∀ k, k < n → f k = g k) → zsum f n = zsum g n
  | 0, _ => rfl
  | n + 1, h => by
    show _ + _ = _ + _
    rw [zsum_congr (fun k hk => h k (by omega)), h n (by omega)]
theorem zcnt_sum (f : Nat → Bool) : ∀ n, zcnt f n = zsum (fun k => if f k = true then 1 else 0) n
  | 0 => rfl
  | n + 1 => by
    show _ + _ = _ + _
    rw [zcnt_sum f n]
theorem zcnt_congr {f g : Nat → Bool} : ∀ {n : Nat}, (∀ k, k < n → f k = g k) → zcnt f n = zcnt g n
  | 0, _ => rfl
  | n + 1, h => by
    show _ + _ = _ + _
    rw [zcnt_congr (fun k hk => h k (by omega)), h n (by omega)]
theorem dys_at : ∀ (t : Nat) {v : Wv}, v 0 ≤ 12 → t < 1000000 → (∀ i, dysV v t i = if i = 1 then v 1 + t else if 98 ≤ i then fC (sv v ((i - 98) % 60 % 10)) (v 0) (col v ((i - 98) % 60)) t ((i - 98) / 60) else v i) ∧ dysN v t = zsum (fun k => fK (sv v (k % 10)) (v 0) (col v k) t) 60
  | 0, v, hn, _ => by
    refine ⟨fun i => ?_, ?_⟩
    · show v i = _
      by_cases h : i = 1
      · subst h; rw [if_pos rfl]; rfl
      · rw [if_neg h]
        by_cases h2 : 98 ≤ i
        · rw [if_pos h2, fC_0, col_i v h2]
        · rw [if_neg h2]
    · show 0 = _
      rw [zsum_zero (fun k _ => fK_0 _ _ _)]
  | t + 1, v, hn, ht => by
    obtain ⟨h1, h2⟩ := dys_at t (v := dayW v) (by rw [dayW_0 hn]; exact hn) (by omega)
    obtain ⟨f1, f2⟩ := dysV_front v t
    refine ⟨fun i => ?_, ?_⟩
    · rw [f1, h1 i]
      by_cases h : i = 1
      · subst h
        rw [if_pos rfl, if_pos rfl, dayW_at hn, if_pos rfl]; omega
      · rw [if_neg h, if_neg h]
        by_cases h3 : 98 ≤ i
        · rw [if_pos h3, if_pos h3, dayW_sv hn (Nat.mod_lt _ (by decide)), dayW_0 hn, dayW_col hn (Nat.mod_lt _ (by decide)), (fC_day _ _ _ t (by omega)).1]
        · rw [if_neg h3, if_neg h3, dayW_at hn, if_neg h, if_neg h3]
    · rw [f2, h2]
      unfold dayN
      rw [zcnt_sum, ← zsum_add]
      refine zsum_congr fun k hk => ?_
      rw [dayC_at hn hk, dayW_sv hn (Nat.mod_lt _ (by decide)), dayW_0 hn, dayW_col hn hk, (fC_day _ _ _ t (by omega)).2]
theorem fad_at : ∀ (n : Nat) {v : Wv} (t : Nat) {c : Nat}, c < 60 → (∀ i, fadV c n v t i = if 98 ≤ i ∧ (i - 98) % 60 = c then fC (sv v (c % 10)) n (col v c) t ((i - 98) / 60) else v i) ∧ fadN c n v t = fK (sv v (c % 10)) n (col v c) t
  | 0, v, t, c, hc => by
    refine ⟨fun i => ?_, rfl⟩
    show v i = _
    by_cases h : 98 ≤ i ∧ (i - 98) % 60 = c
    · rw [if_pos h, ← h.2]; exact (col_i v h.1).symm
    · rw [if_neg h]
  | n + 1, v, t, c, hc => by
    have keep : ∀ i, v i = if 98 ≤ i ∧ (i - 98) % 60 = c then col v c ((i - 98) / 60) else v i := fun i => by
      by_cases h : 98 ≤ i ∧ (i - 98) % 60 = c
      · rw [if_pos h, ← h.2]; exact (col_i v h.1).symm
      · rw [if_neg h]
    rw [fadV_succ, fadN_succ, fK_succ, fC_succ, show cv v n c = col v c n from rfl]
    by_cases ht : t = 0
    · rw [if_pos ht, if_pos ht, if_pos ht, if_pos ht]
      exact ⟨keep, rfl⟩
    · rw [if_neg ht, if_neg ht, if_neg ht, if_neg ht]
      by_cases h1 : t < dtc (col v c n) (sv v (c % 10))
      · rw [if_pos h1, if_pos h1, if_pos h1, if_pos h1]
        refine ⟨fun i => ?_, rfl⟩
        show fset _ _ _ _ = _
        by_cases hi : i = 98 + 60 * n + c
        · subst hi
          rw [fset_self, if_pos (by omega), show (98 + 60 * n + c - 98) / 60 = n by omega, fset_self]
        · rw [fset_ne _ _ hi]
          by_cases h2 : 98 ≤ i ∧ (i - 98) % 60 = c
          · rw [if_pos h2, fset_ne _ _ (by omega), ← h2.2]; exact (col_i v h2.1).symm
          · rw [if_neg h2]
      · rw [if_neg h1, if_neg h1, if_neg h1, if_neg h1]
        by_cases h3 : 0 < dtc (col v c n) (sv v (c % 10))
        · rw [if_pos h3, if_pos h3, if_pos h3, if_pos h3]
          obtain ⟨i1, i2⟩ := fad_at n (v := vset v (98 + 60 * n + c) 0) (t - dtc (col v c n) (sv v (c % 10))) hc
          have hsv : sv (vset v (98 + 60 * n + c) 0) (c % 10) = sv v (c % 10) := fset_ne v 0 (by omega)
          have hcol : col (vset v (98 + 60 * n + c) 0) c = fset (col v c) n 0 := funext fun j => by
            show fset v _ _ _ = _
            by_cases hj : j = n
            · subst hj; rw [fset_self, fset_self]
            · rw [fset_ne _ _ (by omega), fset_ne _ _ hj]; rfl
          rw [hsv, hcol] at i1 i2
          refine ⟨fun i => ?_, ?_⟩
          · rw [show fadV c n (vset v (98 + 60 * n + c) 0) (t - dtc (col v c n) (sv v (c % 10))) i = _ from i1 i]
            by_cases h2 : 98 ≤ i ∧ (i - 98) % 60 = c
            · rw [if_pos h2, if_pos h2]
            · rw [if_neg h2, if_neg h2]; exact fset_ne v 0 (by omega)
          · exact congrArg (1 + ·) i2
        · rw [if_neg h3, if_neg h3, if_neg h3, if_neg h3]
          exact fad_at n t hc
theorem fadA_at (v : Wv) (t : Nat) : ∀ k, k ≤ 60 → (∀ i, fadA v t k i = if 98 ≤ i ∧ (i - 98) % 60 < k then fC (sv v ((i - 98) % 60 % 10)) (v 0) (col v ((i - 98) % 60)) t ((i - 98) / 60) else v i) ∧ zsum (fun k => fadN k (v 0) (fadA v t k) t) k = zsum (fun k => fK (sv v (k % 10)) (v 0) (col v k) t) k
  | 0, _ => ⟨fun i => by rw [if_neg (by omega)]; rfl, rfl⟩
  | k + 1, hk => by
    obtain ⟨h1, h2⟩ := fadA_at v t k (by omega)
    obtain ⟨f1, f2⟩ := fad_at (v 0) (v := fadA v t k) t (c := k) (by omega)
    have hsv : sv (fadA v t k) (k % 10) = sv v (k % 10) := by
      show fadA v t k (4 + k % 10) = _
      rw [h1, if_neg (by omega)]; rfl
    have hcol : col (fadA v t k) k = col v k := funext fun j => by
      show fadA v t k (98 + 60 * j + k) = _
      rw [h1, if_neg (by omega)]; rfl
    rw [hsv, hcol] at f1 f2
    refine ⟨fun i => ?_, ?_⟩
    · show fadV k (v 0) (fadA v t k) t i = _
      rw [f1 i]
      by_cases h : 98 ≤ i ∧ (i - 98) % 60 = k
      · rw [if_pos h, if_pos (by omega), h.2]
      · rw [if_neg h, h1 i]
        by_cases h3 : 98 ≤ i ∧ (i - 98) % 60 < k
        · rw [if_pos h3, if_pos (by omega)]
        · rw [if_neg h3, if_neg (by omega)]
    · show zsum _ k + fadN k (v 0) (fadA v t k) t = zsum _ k + fK (sv v (k % 10)) (v 0) (col v k) t
      rw [h2, f2]
/-- days one by one, or each cell by itself: the same -/
theorem dys_fad {v : Wv} (hn : v 0 ≤ 12) {t : Nat} (ht : t < 1000000) : dysV v t = fadA (vset v 1 (v 1 + t)) t 60 ∧ dysN v t = fadS (vset v 1 (v 1 + t)) t ∧ dysN v t = fadS v t := by
  obtain ⟨h1, h2⟩ := dys_at t hn ht
  obtain ⟨f1, f2⟩ := fadA_at (vset v 1 (v 1 + t)) t 60 (Nat.le_refl _)
  have hsv : ∀ x, sv (vset v 1 (v 1 + t)) x = sv v x := fun x => fset_ne v _ (by omega)
  have h0 : (vset v 1 (v 1 + t)) 0 = v 0 := fset_ne v _ (by decide)
  have hcol : ∀ c, col (vset v 1 (v 1 + t)) c = col v c := fun c => funext fun j => fset_ne v _ (by omega)
  refine ⟨funext fun i => ?_, ?_, ?_⟩
  · rw [h1 i, f1 i, hsv, h0, hcol]
    by_cases h : i = 1
    · subst h
      rw [if_pos rfl, if_neg (by omega)]; exact (fset_self v _ _).symm
    · rw [if_neg h]
      by_cases h3 : 98 ≤ i
      · rw [if_pos h3, if_pos ⟨h3, Nat.mod_lt _ (by decide)⟩]
      · rw [if_neg h3, if_neg (fun q => h3 q.1)]; exact (fset_ne v _ h).symm
  · unfold fadS
    rw [f2, h2]
    refine zsum_congr fun k _ => ?_
    rw [hsv, h0, hcol]
  · unfold fadS
    rw [(fadA_at v t 60 (Nat.le_refl _)).2, h2]
theorem dys_ne {v : Wv} (hn : v 0 ≤ 12) {t : Nat} (ht : t < 1000000) {i : Nat} (hi : i ≠ 1) : dysV v t i = fadA v t 60 i := by
  rw [(dys_at t hn ht).1 i, (fadA_at v t 60 (Nat.le_refl _)).1 i, if_neg hi]
  by_cases h3 : 98 ≤ i
  · rw [if_pos h3, if_pos ⟨h3, Nat.mod_lt _ (by decide)⟩]
  · rw [if_neg h3, if_neg (fun q => h3 q.1)]
theorem dys_prc {v : Wv} (hn : v 0 ≤ 12) {t : Nat} (ht : t < 1000000) (b : Int32) (c : Nat) : prc (dysV v t) b c = prc (fadA v t 60) b c :=
  prc_congr (dys_ne hn ht (by decide)) (fun j _ => dys_ne hn ht (by omega)) (fun j _ => dys_ne hn ht (by omega))
theorem dys_col {v : Wv} (hn : v 0 ≤ 12) {t : Nat} (ht : t < 1000000) {c : Nat} (hc : c < 60) : col (dysV v t) c = fC (sv v (c % 10)) (v 0) (col v c) t := funext fun j => by
  show dysV v t (98 + 60 * j + c) = _
  rw [(dys_at t hn ht).1, if_neg (by omega), if_pos (by omega), show (98 + 60 * j + c - 98) % 60 = c by omega, show (98 + 60 * j + c - 98) / 60 = j by omega]
theorem dys_lo {v : Wv} (hn : v 0 ≤ 12) {t : Nat} (ht : t < 1000000) {i : Nat} (hi : i ≠ 1) (h : i < 98) : dysV v t i = v i := by
  rw [(dys_at t hn ht).1, if_neg hi, if_neg (by omega)]
theorem dys_fadV {v : Wv} (hn : v 0 ≤ 12) {t : Nat} (ht : t < 1000000) {c : Nat} (hc : c < 60) : prc (dysV v t) (-6) c = prc (fadV c (v 0) v t) (-6) c := by
  have hf := (fad_at (v 0) (v := v) t hc).1
  refine prc_congr ?_ (fun j _ => ?_) (fun j hj => ?_)
  · rw [hf, if_neg (by omega)]; exact dys_lo hn ht (by decide) (by decide)
  · have := congrFun (dys_col hn ht hc) j
    show dysV v t _ = fadV c (v 0) v t _
    rw [hf, if_pos (by omega), show (98 + 60 * j + c - 98) / 60 = j by omega]
    exact this
  · have h12 : fadV c (v 0) v t 0 = v 0 := by rw [hf, if_neg (by omega)]
    rw [h12] at hj
    show dysV v t _ = fadV c (v 0) v t _
    rw [hf, if_neg (by omega)]
    exact dys_lo hn ht (by omega) (by omega)
theorem dys_seen {v : Wv} (hn : v 0 ≤ 12) {t : Nat} (ht : t < 1000000) {c : Nat} (hc : c < 60) : seen (dysV v t) (-6) c = tpG (fC (sv v (c % 10)) (v 0) (col v c) t) (v 0) := by
  have h0 := dys_lo hn ht (i := 0) (by decide) (by decide)
  rw [seen_tp (by rw [h0]; exact hn), h0, dys_col hn ht hc]
