/-! days until something changes -/
def dG (s pr : Nat) (p g : Nat → Nat) : Nat → Nat
  | 0 => 0
  | j + 1 => if 0 < g j ∧ p j ≠ pr then 0 else dtc (g j) s + dG s pr p g j
theorem dG_succ (s pr : Nat) (p g : Nat → Nat) (j : Nat) : dG s pr p g (j + 1) = if 0 < g j ∧ p j ≠ pr then 0 else dtc (g j) s + dG s pr p g j := rfl
theorem dG_congr {s pr : Nat} {p g g' : Nat → Nat} : ∀ {n : Nat}, (∀ i, i < n → g i = g' i) → dG s pr p g n = dG s pr p g' n
  | 0, _ => rfl
  | n + 1, h => by rw [dG_succ, dG_succ, h n (by omega), dG_congr (fun i hi => h i (by omega))]
theorem dtoGo_dG (v : Wv) (c pr : Nat) : ∀ (n d : Nat), dtoGo v c pr n d = d + dG (sv v (c % 10)) pr (fun j => pv v j 4) (col v c) n
  | 0, d => rfl
  | n + 1, d => by
    rw [dtoGo_succ, dG_succ]
    by_cases h : 0 < cv v n c ∧ pv v n 4 ≠ pr
    · rw [if_pos h, if_pos (show 0 < col v c n ∧ _ from h)]; rfl
    · rw [if_neg h, if_neg (show ¬(0 < col v c n ∧ _) from h), dtoGo_dG v c pr n _, Nat.add_assoc]; rfl
theorem fC_le {s : Nat} : ∀ {n : Nat} {g : Nat → Nat} {t : Nat} (i : Nat), fC s n g t i ≤ g i
  | 0, _, _, _ => Nat.le_refl _
  | n + 1, g, t, i => by
    by_cases h0 : 0 < g n
    · by_cases ht : t < dtc (g n) s
      · rw [(fC_part ht).1]
        by_cases hi : i = n
        · subst hi; rw [fset_self]; exact Nat.sub_le _ _
        · rw [fset_ne g _ hi]; exact Nat.le_refl _
      · rw [(fC_hit h0 (by omega)).1]
        refine Nat.le_trans (fC_le i) ?_
        by_cases hi : i = n
        · subst hi; rw [fset_self]; exact Nat.zero_le _
        · rw [fset_ne g _ hi]; exact Nat.le_refl _
    · rw [(fC_skip (by omega) t).1]; exact fC_le i
/-- the top of a column behind t days, by its topmost -/
theorem tp_part {s n t : Nat} {g : Nat → Nat} (h0 : 0 < g n) (h : t < dtc (g n) s) : tpG (fC s (n + 1) g t) (n + 1) = some n := by
  rw [(fC_part h).1, tpG_succ, fset_self, if_pos (dtc_left h0 h)]
theorem tp_hit {s n t : Nat} {g : Nat → Nat} (h0 : 0 < g n) (h : dtc (g n) s ≤ t) : tpG (fC s (n + 1) g t) (n + 1) = tpG (fC s n (fset g n 0) (t - dtc (g n) s)) n := by
  rw [(fC_hit h0 h).1, tpG_succ, fC_ge (Nat.le_refl _), fset_self, if_neg (by decide)]
theorem tp_skip {s n : Nat} {g : Nat → Nat} (h : g n = 0) (t : Nat) : tpG (fC s (n + 1) g t) (n + 1) = tpG (fC s n g t) n := by
  rw [(fC_skip h t).1, tpG_succ, fC_ge (Nat.le_refl _), h, if_neg (by decide)]
theorem tp_a {s pr : Nat} {p : Nat → Nat} : ∀ (n : Nat) (g : Nat → Nat) (t : Nat), t < dG s pr p g n → ∃ i, tpG (fC s n g t) n = some i ∧ p i = pr
  | 0, _, _, h => absurd h (Nat.not_lt_zero _)
  | n + 1, g, t, h => by
    rw [dG_succ] at h
    by_cases hc : 0 < g n ∧ p n ≠ pr
    · rw [if_pos hc] at h; exact absurd h (Nat.not_lt_zero _)
    · rw [if_neg hc] at h
      by_cases h0 : 0 < g n
      · have hp : p n = pr := Classical.byContradiction fun q => hc ⟨h0, q⟩
        by_cases ht : t < dtc (g n) s
        · exact ⟨n, tp_part h0 ht, hp⟩
        · rw [tp_hit h0 (by omega)]
          refine tp_a n _ _ ?_
          rw [dG_congr (g' := g) (fun i hi => fset_ne g 0 (by omega))]
          omega
      · have h1 : g n = 0 := by omega
        rw [tp_skip h1]
        rw [h1, dtc_0, Nat.zero_add] at h
        exact tp_a n g t h
theorem tp_b {s pr : Nat} {p : Nat → Nat} : ∀ (n : Nat) (g : Nat → Nat) (t : Nat), t = dG s pr p g n → ∀ i, tpG (fC s n g t) n = some i → p i ≠ pr
  | 0, _, _, _, i, h => by cases h
  | n + 1, g, t, h, i, hi => by
    rw [dG_succ] at h
    by_cases hc : 0 < g n ∧ p n ≠ pr
    · rw [if_pos hc] at h
      subst h
      rw [fC_0, tpG_succ, if_pos hc.1] at hi
      cases hi
      exact hc.2
    · rw [if_neg hc] at h
      by_cases h0 : 0 < g n
      · rw [tp_hit h0 (by omega)] at hi
        refine tp_b n _ _ ?_ i hi
        rw [dG_congr (g' := g) (fun i hi => fset_ne g 0 (by omega))]
        omega
      · have h1 : g n = 0 := by omega
        rw [tp_skip h1] at hi
        rw [h1, dtc_0, Nat.zero_add] at h
        exact tp_b n g t h i hi
theorem zmin_all (f : Nat → Nat) : ∀ {n c : Nat}, c < n → zmin f n ≤ f c
  | n + 1, c, h => by
    by_cases hc : c = n
    · subst hc; exact Nat.min_le_right _ _
    · exact Nat.le_trans (Nat.min_le_left _ _) (zmin_all f (by omega))
theorem zmin_att (f : Nat → Nat) : ∀ {n : Nat}, zmin f n < 1000000 → ∃ c, c < n ∧ f c = zmin f n
  | 0, h => absurd h (by show ¬ 1000000 < 1000000; omega)
  | n + 1, h => by
    by_cases hm : zmin f n ≤ f n
    · have e : zmin f (n + 1) = zmin f n := Nat.min_eq_left hm
      rw [e] at h ⊢
      obtain ⟨c, hc, he⟩ := zmin_att f h
      exact ⟨c, by omega, he⟩
    · exact ⟨n, Nat.lt_succ_self _, (Nat.min_eq_right (by omega)).symm⟩
theorem zcnt_pos {f : Nat → Bool} : ∀ {n : Nat}, 0 < zcnt f n → ∃ c, c < n ∧ f c = true
  | 0, h => absurd h (Nat.not_lt_zero _)
  | n + 1, h => by
    by_cases hf : f n = true
    · exact ⟨n, Nat.lt_succ_self _, hf⟩
    · have h2 : 0 < zcnt f n + (if f n = true then 1 else 0) := h
      rw [if_neg hf] at h2
      obtain ⟨c, hc, he⟩ := zcnt_pos (f := f) (n := n) h2
      exact ⟨c, by omega, he⟩
theorem zcnt_of {f : Nat → Bool} : ∀ {n c : Nat}, c < n → f c = true → 0 < zcnt f n
  | n + 1, c, hc, h => by
    show 0 < zcnt f n + (if f n = true then 1 else 0)
    by_cases hn : c = n
    · subst hn; rw [if_pos h]; omega
    · have := zcnt_of (f := f) (n := n) (by omega) h; omega
theorem dys_prc4 {v : Wv} (hn : v 0 ≤ 12) {t : Nat} (ht : t < 1000000) {c : Nat} (hc : c < 60) : prc (dysV v t) (-6) c = (tpG (fC (sv v (c % 10)) (v 0) (col v c) t) (v 0)).map (fun j => pv v j 4) := by
  unfold prc
  rw [dys_seen hn ht hc]
  cases hs : tpG (fC (sv v (c % 10)) (v 0) (col v c) t) (v 0) with
  | none => rfl
  | some j =>
    have := (tpG_some hs).1
    exact congrArg some (dys_lo hn ht (by omega) (by omega))
theorem oth_lt {v : Wv} (hn : v 0 ≤ 12) {t c : Nat} (ht : t < 1000000) (hc : c < 60) (h : t < dtOther v c) : prc (dysV v t) (-6) c = prc v (-6) c := by
  rw [dys_prc4 hn ht hc]
  unfold dtOther at h
  cases hp : prc v (-6) c with
  | none =>
    have hs : seen v (-6) c = none := by
      unfold prc at hp
      cases hq : seen v (-6) c with
      | none => rfl
      | some j => rw [hq] at hp; cases hp
    rw [seen_tp hn] at hs
    cases ht2 : tpG (fC (sv v (c % 10)) (v 0) (col v c) t) (v 0) with
    | none => rfl
    | some j =>
      exfalso
      have hj := tpG_some ht2
      have h2 := fC_le (s := sv v (c % 10)) (n := v 0) (g := col v c) (t := t) j
      have : ∀ n, j < n → tpG (col v c) n ≠ none := by
        intro n
        induction n with
        | zero => intro q; omega
        | succ n ih =>
          intro q
          rw [tpG_succ]
          by_cases hgn : 0 < col v c n
          · rw [if_pos hgn]; intro w; cases w
          · rw [if_neg hgn]
            refine ih ?_
            have : j ≠ n := fun w => by subst w; omega
            omega
      exact this _ hj.1 hs
  | some pr =>
    rw [hp] at h
    have h2 : t < dtoGo v c pr (v 0) 0 := h
    rw [dtoGo_dG, Nat.zero_add] at h2
    obtain ⟨i, hi, he⟩ := tp_a _ _ _ h2
    rw [hi]
    exact congrArg some he
theorem oth_eq {v : Wv} (hn : v 0 ≤ 12) {t c : Nat} (ht : t < 1000000) (hc : c < 60) (h : t = dtOther v c) : prc (dysV v t) (-6) c ≠ prc v (-6) c := by
  rw [dys_prc4 hn ht hc]
  unfold dtOther at h
  cases hp : prc v (-6) c with
  | none => rw [hp] at h; have h2 : t = 1000000 := h; omega
  | some pr =>
    rw [hp] at h
    have h2 : t = dtoGo v c pr (v 0) 0 := h
    rw [dtoGo_dG, Nat.zero_add] at h2
    intro q
    cases hs : tpG (fC (sv v (c % 10)) (v 0) (col v c) t) (v 0) with
    | none => rw [hs] at q; cases q
    | some i =>
      rw [hs] at q
      exact tp_b _ _ _ h2 i hs (Option.some.inj q)
theorem next_no {v : Wv} (hn : v 0 ≤ 12) {n : Nat} (hn3 : n ≤ 300) (h : ∀ m, m ≤ n → othN (dysV v m) (prc v (-6)) = 0) : n < zmin (dtOther v) 60 := by
  refine Nat.lt_of_not_le fun q => ?_
  obtain ⟨c, hc, he⟩ := zmin_att (dtOther v) (n := 60) (by omega)
  have h1 := oth_eq hn (t := dtOther v c) (by omega) hc rfl
  have h2 := h (dtOther v c) (by omega)
  have h3 : 0 < othN (dysV v (dtOther v c)) (prc v (-6)) := zcnt_of hc (decide_eq_true h1)
  omega
theorem next_yes {v : Wv} (hn : v 0 ≤ 12) {n : Nat} (hn3 : n + 1 ≤ 300) (h : ∀ m, m ≤ n → othN (dysV v m) (prc v (-6)) = 0) (hp : 0 < othN (dysV v (n + 1)) (prc v (-6))) : zmin (dtOther v) 60 = n + 1 := by
  have h1 := next_no hn (by omega) h
  obtain ⟨c, hc, he⟩ := zcnt_pos hp
  have h2 := zmin_all (dtOther v) hc
  refine Nat.le_antisymm ?_ h1
  refine Nat.le_trans h2 (Nat.le_of_not_lt fun q => ?_)
  exact of_decide_eq_true he (oth_lt hn (by omega) hc q)
theorem oth_0 (v : Wv) : othN (dysV v 0) (prc v (-6)) = 0 := by
  refine Nat.eq_zero_of_not_pos fun q => ?_
  obtain ⟨c, hc, he⟩ := zcnt_pos q
  exact of_decide_eq_true he rfl
def dS (s p : Nat) (g : Nat → Nat) (n : Nat) : Nat := zsum (fun i => if p + 1 ≤ i then dtc (g i) s else 0) n
theorem dS_succ (s p : Nat) (g : Nat → Nat) (n : Nat) : dS s p g (n + 1) = dS s p g n + if p + 1 ≤ n then dtc (g n) s else 0 := rfl
theorem dS_congr {s p : Nat} {g g' : Nat → Nat} {n : Nat} (h : ∀ i, i < n → g i = g' i) : dS s p g n = dS s p g' n :=
  zsum_congr fun k hk => by rw [h k hk]
theorem see_a {s p : Nat} : ∀ (n : Nat) (g : Nat → Nat) (t : Nat), p < n → t < dS s p g n → tpG (fC s n g t) n ≠ some p
  | n + 1, g, t, hp, h => by
    rw [dS_succ] at h
    by_cases hpn : p + 1 ≤ n
    · rw [if_pos hpn] at h
      by_cases h0 : 0 < g n
      · by_cases ht : t < dtc (g n) s
        · rw [tp_part h0 ht]; intro q; cases q; omega
        · rw [tp_hit h0 (by omega)]
          refine see_a n _ _ (by omega) ?_
          rw [dS_congr (g' := g) (fun i hi => fset_ne g 0 (by omega))]
          omega
      · have h1 : g n = 0 := by omega
        rw [tp_skip h1]
        rw [h1, dtc_0] at h
        exact see_a n g t (by omega) h
    · exfalso
      rw [if_neg hpn] at h
      have : dS s p g n = 0 := zsum_zero (fun k hk => if_neg (by omega))
      omega
theorem see_b {s p : Nat} : ∀ (n : Nat) (g : Nat → Nat) (t : Nat), p < n → 0 < g p → t = dS s p g n → tpG (fC s n g t) n = some p
  | n + 1, g, t, hp, hg, h => by
    rw [dS_succ] at h
    by_cases hpn : p + 1 ≤ n
    · rw [if_pos hpn] at h
      by_cases h0 : 0 < g n
      · rw [tp_hit h0 (by omega)]
        refine see_b n _ _ (by omega) (by rw [fset_ne g 0 (by omega)]; exact hg) ?_
        rw [dS_congr (g' := g) (fun i hi => fset_ne g 0 (by omega))]
        omega
      · have h1 : g n = 0 := by omega
        rw [tp_skip h1]
        rw [h1, dtc_0] at h
        exact see_b n g t (by omega) hg h
    · rw [if_neg hpn] at h
      have h3 : dS s p g n = 0 := zsum_zero (fun k hk => if_neg (by omega))
      have e : p = n := by omega
      subst e
      rw [h, h3, fC_0, tpG_succ, if_pos hg]
theorem lt_lt {v : Wv} (hn : v 0 ≤ 12) {t c p : Nat} (ht : t < 1000000) (hc : c < 60) (hp : p < v 0) (h : t < dtSee v p c) : seen (dysV v t) (-6) c ≠ some p := by
  rw [dys_seen hn ht hc]
  unfold dtSee at h
  by_cases h0 : cv v p c = 0
  · intro q
    have := (tpG_some q).2
    have h2 := fC_le (s := sv v (c % 10)) (n := v 0) (g := col v c) (t := t) p
    have h3 : col v c p = 0 := h0
    omega
  · rw [if_neg h0] at h
    exact see_a _ _ _ hp h
theorem lt_eq {v : Wv} (hn : v 0 ≤ 12) {t c p : Nat} (ht : t < 1000000) (hc : c < 60) (hp : p < v 0) (h : t = dtSee v p c) : seen (dysV v t) (-6) c = some p := by
  rw [dys_seen hn ht hc]
  unfold dtSee at h
  by_cases h0 : cv v p c = 0
  · rw [if_pos h0] at h; omega
  · rw [if_neg h0] at h
    exact see_b _ _ _ hp (Nat.pos_of_ne_zero h0) h
theorem light_no {v : Wv} (hn : v 0 ≤ 12) {n p : Nat} (hp : p < v 0) (hn3 : n ≤ 300) (h : ∀ m, m ≤ n → seenCnt (dysV v m) p = 0) : n < zmin (dtSee v p) 60 := by
  refine Nat.lt_of_not_le fun q => ?_
  obtain ⟨c, hc, he⟩ := zmin_att (dtSee v p) (n := 60) (by omega)
  have h1 := lt_eq hn (t := dtSee v p c) (by omega) hc hp rfl
  have h2 := h (dtSee v p c) (by omega)
  have h3 : 0 < seenCnt (dysV v (dtSee v p c)) p := zcnt_of hc (decide_eq_true h1)
  omega
theorem light_yes {v : Wv} (hn : v 0 ≤ 12) {n p : Nat} (hp : p < v 0) (hn3 : n ≤ 300) (h : ∀ m, m < n → seenCnt (dysV v m) p = 0) (hq : 0 < seenCnt (dysV v n) p) : zmin (dtSee v p) 60 = n := by
  obtain ⟨c, hc, he⟩ := zcnt_pos hq
  have h2 := zmin_all (dtSee v p) hc
  refine Nat.le_antisymm ?_ ?_
  · refine Nat.le_trans h2 (Nat.le_of_not_lt fun q => ?_)
    exact lt_lt hn (by omega) hc hp q (of_decide_eq_true he)
  · cases n with
    | zero => exact Nat.zero_le _
    | succ n => exact light_no hn hp (by omega) (fun m hm => h m (by omega))
/-! counts -/
theorem clr_nc {v : Wv} (hv : wOk v) {j : Nat} (hj : j < v 0) : clrCnt v j + ncCnt (cv v j) = lieCells v j := by
  unfold clrCnt ncCnt lieCells
  rw [zcnt_sum, zcnt_sum, zcnt_sum, ← zsum_add]
  refine zsum_congr fun k hk => ?_
  by_cases h : 0 < cv v j k
  · have h1 := hv.lies hj hk h
    rw [h1, decide_eq_true h, decide_eq_false (show ¬ cv v j k = 0 by omega)]; rfl
  · rw [decide_eq_false h, decide_eq_true (show cv v j k = 0 by omega), Bool.and_true]
    by_cases hl : liesN (pv v j) (k % 10) (k / 10) = true
    · rw [if_pos hl]; rfl
    · rw [if_neg hl]; rfl
def lieX (x y w h : Nat) : Nat := zcnt (fun k => decide (x ≤ k % 10) && decide (k % 10 < x + w) && decide (y ≤ k / 10) && decide (k / 10 < y + h)) 60
theorem lieX_all : ((List.range 11).all fun x => (List.range (11 - x)).all fun w => (List.range 7).all fun y => (List.range (7 - y)).all fun h => lieX x y w h == w * h) = true := by decide +kernel
theorem lieX_eq {x y w h : Nat} (h1 : x + w ≤ 10) (h2 : y + h ≤ 6) : lieX x y w h = w * h := by
  have a := List.all_eq_true.mp lieX_all x (List.mem_range.mpr (by omega))
  have b := List.all_eq_true.mp a w (List.mem_range.mpr (by omega))
  have c := List.all_eq_true.mp b y (List.mem_range.mpr (by omega))
  have d := List.all_eq_true.mp c h (List.mem_range.mpr (by omega))
  exact eq_of_beq d
theorem lie_wh {v : Wv} (hv : wOk v) {j : Nat} (hj : j < v 0) : lieCells v j = pv v j 2 * pv v j 3 := by
  have hr := hv.rect hj
  exact lieX_eq (x := pv v j 0) (y := pv v j 1) (w := pv v j 2) (h := pv v j 3) (by omega) (by omega)
theorem zsum_z {f : Nat → Nat} : ∀ {n : Nat}, zsum f n = 0 → ∀ k, k < n → f k = 0
  | n + 1, h, k, hk => by
    have h2 : zsum f n + f n = 0 := h
    by_cases hkn : k = n
    · subst hkn; omega
    · exact zsum_z (f := f) (n := n) (by omega) k (by omega)
theorem allV_eq (v : Wv) : allV v = allClr v := by
  refine zcnt_congr fun j _ => decide_eq_decide.mpr ⟨fun h => ?_, fun h => ?_⟩
  · refine Nat.eq_zero_of_not_pos fun q => ?_
    obtain ⟨c, hc, he⟩ := zcnt_pos q
    have := zsum_z h c hc
    have h2 := of_decide_eq_true he
    omega
  · refine zsum_zero fun k hk => Nat.eq_zero_of_not_pos fun q => ?_
    have : 0 < ncCnt (cv v j) := zcnt_of hk (decide_eq_true q)
    omega
theorem lyC_0 (v : Wv) (c : Nat) : lyC v c 0 = lieCnt v (c % 10) (c / 10) :=
  zcnt_congr fun j _ => by rw [decide_eq_true rfl, Bool.true_or, Bool.and_true]
theorem lyC_1 {v : Wv} (hv : wOk v) {c : Nat} (hc : c < 60) : lyC v c 1 = notClear v c :=
  zcnt_congr fun j hj => by
    rw [decide_eq_false (by decide), Bool.false_or]
    by_cases h : 0 < cv v j c
    · rw [decide_eq_true h, hv.lies hj hc h]; rfl
    · rw [decide_eq_false h, Bool.and_false]
/-- the first ones among n are as many as there are values -/
def fsN (f : Nat → Option Nat) (c : Nat) : Nat → Bool
  | 0 => true
  | k + 1 => fsN f c k && decide (f k ≠ f c)
theorem fsN_true {f : Nat → Option Nat} {c : Nat} : ∀ {n : Nat}, fsN f c n = true ↔ ∀ k, k < n → f k ≠ f c
  | 0 => ⟨fun _ k hk => absurd hk (Nat.not_lt_zero _), fun _ => rfl⟩
  | n + 1 => by
    show (fsN f c n && decide (f n ≠ f c)) = true ↔ _
    rw [Bool.and_eq_true, fsN_true, decide_eq_true_eq]
    constructor
    · intro h k hk
      by_cases e : k = n
      · subst e; exact h.2
      · exact h.1 k (by omega)
    · intro h; exact ⟨fun k hk => h k (by omega), h n (by omega)⟩
theorem zcnt_flip {f g : Nat → Bool} {p : Nat} (hf : f p = false) (hg : g p = true) (h : ∀ q, q ≠ p → f q = g q) : ∀ {n : Nat}, p < n → zcnt g n = zcnt f n + 1
  | n + 1, hp => by
    show zcnt g n + (if g n = true then 1 else 0) = zcnt f n + (if f n = true then 1 else 0) + 1
    by_cases e : p = n
    · subst e
      rw [hf, hg, zcnt_congr (f := g) (g := f) (fun k hk => (h k (by omega)).symm)]; rfl
    · rw [zcnt_flip hf hg h (n := n) (by omega), h n (by omega)]; omega
theorem zany_iff {p : Nat → Bool} : ∀ {n : Nat}, zany p n = true ↔ ∃ k, k < n ∧ p k = true
  | 0 => ⟨fun h => (by cases h), fun ⟨k, hk, _⟩ => absurd hk (Nat.not_lt_zero _)⟩
  | n + 1 => by
    show (zany p n || p n) = true ↔ _
    rw [Bool.or_eq_true, zany_iff]
    constructor
    · rintro (⟨k, hk, h⟩ | h)
      · exact ⟨k, by omega, h⟩
      · exact ⟨n, Nat.lt_succ_self _, h⟩
    · rintro ⟨k, hk, h⟩
      by_cases e : k = n
      · subst e; exact Or.inr h
      · exact Or.inl ⟨k, by omega, h⟩
theorem bool_ext {a b : Bool} (h : a = true ↔ b = true) : a = b := by
  cases a <;> cases b
  · rfl
  · exact h.mpr rfl
  · exact (h.mp rfl).symm
  · rfl
theorem fst_val {f : Nat → Option Nat} {B : Nat} : ∀ (n : Nat), (∀ k, k < n → ∀ p, f k = some p → p < B) → zcnt (fun c => (f c).isSome && fsN f c c) n = zcnt (fun p => zany (fun c => decide (f c = some p)) n) B
  | 0, _ => by
    have : ∀ B, zcnt (fun p => zany (fun c => decide (f c = some p)) 0) B = 0 := fun B => by
      refine Nat.eq_zero_of_not_pos fun q => ?_
      obtain ⟨c, _, he⟩ := zcnt_pos q
      cases he
    rw [this]; rfl
  | n + 1, hB => by
    show zcnt _ n + (if ((f n).isSome && fsN f n n) = true then 1 else 0) = _
    rw [fst_val n (fun k hk => hB k (by omega))]
    cases hf : f n with
    | none =>
      rw [if_neg (by simp)]
      refine zcnt_congr fun p _ => bool_ext ?_
      rw [zany_iff, zany_iff]
      constructor
      · rintro ⟨k, hk, h⟩; exact ⟨k, by omega, h⟩
      · rintro ⟨k, hk, h⟩
        have h1 := of_decide_eq_true h
        have : k ≠ n := fun e => by subst e; rw [hf] at h1; cases h1
        exact ⟨k, by omega, h⟩
    | some p0 =>
      by_cases hq : fsN f n n = true
      · rw [if_pos (by rw [hq]; rfl)]
        refine (zcnt_flip (p := p0) ?_ ?_ ?_ (hB n (Nat.lt_succ_self _) p0 hf)).symm
        · refine Bool.eq_false_iff.mpr fun w => ?_
          obtain ⟨k, hk, h⟩ := zany_iff.mp w
          exact fsN_true.mp hq k hk ((of_decide_eq_true h).trans hf.symm)
        · exact zany_iff.mpr ⟨n, Nat.lt_succ_self _, decide_eq_true hf⟩
        · intro q hqp
          refine bool_ext ?_
          rw [zany_iff, zany_iff]
          constructor
          · rintro ⟨k, hk, h⟩; exact ⟨k, by omega, h⟩
          · rintro ⟨k, hk, h⟩
            have h1 := of_decide_eq_true h
            have : k ≠ n := fun e => by subst e; rw [hf] at h1; exact hqp (Option.some.inj h1).symm
            exact ⟨k, by omega, h⟩
      · rw [if_neg (by rw [Bool.not_eq_true] at hq; rw [hq, Bool.and_false]; decide)]
        refine zcnt_congr fun p _ => bool_ext ?_
        rw [zany_iff, zany_iff]
        constructor
        · rintro ⟨k, hk, h⟩; exact ⟨k, by omega, h⟩
        · rintro ⟨k, hk, h⟩
          by_cases e : k = n
          · subst e
            have h1 := of_decide_eq_true h
            apply Classical.byContradiction
            intro w
            refine hq (fsN_true.mpr fun i hi q => w ⟨i, hi, decide_eq_true (q.trans h1)⟩)
          · exact ⟨k, by omega, h⟩
def shP (v : Wv) (j : Nat) : Option Nat := if 0 < seenCnt v j then some (pv v j 4) else none
theorem fst_unlike {v : Wv} (hv : wOk v) : fstCnt v = unlikeCnt v := by
  have e1 : fstCnt v = zcnt (fun c => (prc v (-6) c).isSome && fsN (prc v (-6)) c c) 60 := by
    refine zcnt_congr fun c _ => ?_
    congr 1
    have : ∀ k, nwB v c k = fsN (prc v (-6)) c k := by
      intro k
      induction k with
      | zero => rfl
      | succ k ih => show (_ && _) = (_ && _); rw [ih]
    exact this c
  have e2 : unlikeCnt v = zcnt (fun j => (shP v j).isSome && fsN (shP v) j j) (v 0) := by
    refine zcnt_congr fun j _ => ?_
    by_cases h : 0 < seenCnt v j
    · have hs : shP v j = some (pv v j 4) := if_pos h
      rw [decide_eq_true h, hs]
      show (true && !(blw v j)) = (true && fsN (shP v) j j)
      congr 1
      refine bool_ext ?_
      rw [fsN_true, Bool.not_eq_true', Bool.eq_false_iff]
      constructor
      · intro w k hk q
        refine w (zany_iff.mpr ⟨k, hk, ?_⟩)
        rw [hs] at q
        unfold shP at q
        split at q
        · rename_i h3
          rw [decide_eq_true (Option.some.inj q), decide_eq_true h3]; rfl
        · cases q
      · intro w q
        obtain ⟨k, hk, h3⟩ := zany_iff.mp q
        rw [Bool.and_eq_true, decide_eq_true_eq, decide_eq_true_eq] at h3
        refine w k hk ?_
        rw [hs]
        unfold shP
        rw [if_pos h3.2, h3.1]
    · have hs : shP v j = none := if_neg h
      rw [decide_eq_false h, hs]; rfl
  rw [e1, e2, fst_val (B := 1000) 60 (fun k _ p hp => prc_ob hv p hp), fst_val (B := 1000) (v 0) (fun k hk p hp => by
    unfold shP at hp
    split at hp
    · have h4 := hv.price hk
      have := Option.some.inj hp
      omega
    · cases hp)]
  refine zcnt_congr fun p _ => bool_ext ?_
  rw [zany_iff, zany_iff]
  constructor
  · rintro ⟨c, hc, h⟩
    have h1 := of_decide_eq_true h
    unfold prc at h1
    cases hs : seen v (-6) c with
    | none => rw [hs] at h1; cases h1
    | some j =>
      rw [hs] at h1
      refine ⟨j, seen_lt hs, decide_eq_true ?_⟩
      unfold shP
      rw [if_pos (show 0 < seenCnt v j from zcnt_of (f := fun c => decide (seen v (-6) c = some j)) hc (decide_eq_true hs))]
      exact h1
  · rintro ⟨j, hj, h⟩
    have h1 := of_decide_eq_true h
    unfold shP at h1
    split at h1
    · rename_i h3
      obtain ⟨c, hc, he⟩ := zcnt_pos h3
      refine ⟨c, hc, decide_eq_true ?_⟩
      unfold prc
      rw [of_decide_eq_true he]
      exact h1
    · cases h1
/-! a cell is scraped, from the poster that is seen down -/
theorem scr_go {c : Nat} : ∀ (n : Nat) (u : Wv) (t : Nat), n ≤ 12 → (seenGo u (-6) c n = none → scrV c n u t = u ∧ scrN c n u t = 0) ∧ (∀ i, seenGo u (-6) c n = some i → scrV c n u t = scrV c (i + 1) u t ∧ scrN c n u t = scrN c (i + 1) u t)
  | 0, u, t, _ => ⟨fun _ => ⟨rfl, rfl⟩, fun i h => by cases h⟩
  | n + 1, u, t, hn => by
    obtain ⟨i1, i2⟩ := scr_go (c := c) n u t (by omega)
    rw [seenGo_succ]
    by_cases h : 0 < cv u n c
    · rw [if_pos ⟨nI_ne6 (by omega), h⟩]
      exact ⟨fun q => (by cases q), fun i q => (by cases q; exact ⟨rfl, rfl⟩)⟩
    · rw [if_neg (fun q => h q.2)]
      have h0 : cv u n c = 0 := by omega
      have hV : scrV c (n + 1) u t = scrV c n u t := by
        rw [scrV_succ]
        by_cases ht : t = 0
        · rw [if_pos ht]; subst ht
          cases n with
          | zero => rfl
          | succ m => rw [scrV_succ, if_pos rfl]
        · rw [if_neg ht, h0, Nat.zero_min, Nat.sub_zero, Nat.sub_zero]
          have : vset u (98 + 60 * n + c) 0 = u := by
            have h5 : u (98 + 60 * n + c) = 0 := h0
            have := fset_id u (98 + 60 * n + c)
            rw [h5] at this; exact this
          rw [this]
      have hN : scrN c (n + 1) u t = scrN c n u t := by
        rw [scrN_succ]
        by_cases ht : t = 0
        · rw [if_pos ht]; subst ht
          cases n with
          | zero => rfl
          | succ m => rw [scrN_succ, if_pos rfl]
        · rw [if_neg ht, h0, Nat.zero_min, Nat.sub_zero, Nat.sub_zero, if_neg (fun q => absurd q.1 (by decide)), Nat.zero_add]
          have : vset u (98 + 60 * n + c) 0 = u := by
            have h5 : u (98 + 60 * n + c) = 0 := h0
            have := fset_id u (98 + 60 * n + c)
            rw [h5] at this; exact this
          rw [this]
      rw [hV, hN]
      exact ⟨i1, i2⟩
theorem scr_step {c i : Nat} {u : Wv} {t : Nat} (h : 0 < cv u i c) (ht : 0 < t) : scrV c (i + 1) u t = scrV c i (vset u (98 + 60 * i + c) (cv u i c - t)) (t - min (cv u i c) t) ∧ scrN c (i + 1) u t = (if cv u i c ≤ t then 1 else 0) + scrN c i (vset u (98 + 60 * i + c) (cv u i c - t)) (t - min (cv u i c) t) := by
  rw [scrV_succ, scrN_succ, if_neg (by omega), if_neg (by omega), show cv u i c - min (cv u i c) t = cv u i c - t by omega]
  refine ⟨rfl, ?_⟩
  congr 1
  by_cases h2 : cv u i c ≤ t
  · rw [if_pos h2, if_pos ⟨by omega, by omega⟩]
  · rw [if_neg h2, if_neg (by omega)]
theorem seen_cut {u : Wv} {c i n x : Nat} (hc : c < 60) : ∀ {m : Nat}, i < m → seenGo u (-6) c m = some i → x = 0 → seenGo (vset u (98 + 60 * i + c) x) (-6) c m = seenGo (vset u (98 + 60 * i + c) x) (-6) c i
  | m + 1, hi, h, hx => by
    rw [seenGo_succ] at h ⊢
    have hcv : ∀ j, j ≠ i → cv (vset u (98 + 60 * i + c) x) j c = cv u j c := fun j hj => fset_ne u x (by omega)
    have hii : cv (vset u (98 + 60 * i + c) x) i c = x := fset_self u _ x
    by_cases e : i = m
    · subst e
      rw [if_neg (by rw [hii]; omega)]
    · rw [hcv m (by omega)]
      split at h
      · cases h; omega
      · rename_i h2
        rw [if_neg h2]
        exact seen_cut (n := n) hc (by omega) h hx
