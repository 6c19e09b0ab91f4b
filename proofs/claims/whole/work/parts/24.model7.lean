/-- the buyers of a list come, one after another -/
def mV (bc bu : Nat → Nat) (v : Wv) : Nat → Wv
  | 0 => v
  | k + 1 => sellV (mV bc bu v k) (bc k) (bu k)
def mN (bc bu : Nat → Nat) (v : Wv) : Nat → Nat
  | 0 => 0
  | k + 1 => mN bc bu v k + if sells (mV bc bu v k) (bc k) (bu k) = true then 1 else 0
theorem mV_congr {bc bu bc' bu' : Nat → Nat} (v : Wv) : ∀ {n : Nat}, (∀ j, j < n → bc j = bc' j ∧ bu j = bu' j) → mV bc bu v n = mV bc' bu' v n
  | 0, _ => rfl
  | n + 1, h => by
    show sellV _ _ _ = sellV _ _ _
    rw [mV_congr v (fun j hj => h j (by omega)), (h n (by omega)).1, (h n (by omega)).2]
theorem mN_congr {bc bu bc' bu' : Nat → Nat} (v : Wv) : ∀ {n : Nat}, (∀ j, j < n → bc j = bc' j ∧ bu j = bu' j) → mN bc bu v n = mN bc' bu' v n
  | 0, _ => rfl
  | n + 1, h => by
    show _ + _ = _ + _
    rw [mN_congr v (fun j hj => h j (by omega)), mV_congr v (fun j hj => h j (by omega)), (h n (by omega)).1, (h n (by omega)).2]
theorem mV_ok (bc bu : Nat → Nat) {v : Wv} (h : wOk v) : ∀ k, wOk (mV bc bu v k) ∧ mV bc bu v k 0 = v 0
  | 0 => ⟨h, rfl⟩
  | k + 1 => by
    have hi := mV_ok bc bu h k
    have h2 := sellV_ok hi.1 (bc k) (bu k)
    exact ⟨h2.1, h2.2.trans hi.2⟩
theorem mN_le (bc bu : Nat → Nat) (v : Wv) : ∀ k, mN bc bu v k ≤ k
  | 0 => Nat.le_refl _
  | k + 1 => by
    have := mN_le bc bu v k
    show _ + (if _ then _ else _) ≤ _
    split <;> omega
/-- the reader at a place of the text that is well so far -/
def JS (ps : Nat → Nat) (ln a p n : Nat) (bc bu : Nat → Nat) : Prop :=
  a ≤ ln ∧ zfind (bad g0 ps) a = none ∧ (rst g0 ps a).1 = p ∧ ∀ v, sbV g0 ps (ln + 1) v a = mV bc bu v n ∧ sbN g0 ps (ln + 1) v a = mN bc bu v n
def J4 (ps : Nat → Nat) (ln a n : Nat) (bc bu : Nat → Nat) : Prop :=
  JS ps ln a 4 n bc bu ∧ (∃ x y u, rst g0 ps a = (4, some x, some y, some u) ∧ bc n = y * 10 + x ∧ bu n = u) ∧ (a < ln → ps a ≠ 59 → bad g0 ps a = true)
theorem js_0 (ps : Nat → Nat) (ln : Nat) (bc bu : Nat → Nat) : JS ps ln 0 0 0 bc bu := ⟨Nat.zero_le _, rfl, rfl, fun _ => ⟨rfl, rfl⟩⟩
theorem js_step {ps : Nat → Nat} {ln a p n : Nat} {bc bu : Nat → Nat} (h : JS ps ln a p n bc bu) (ha : a < ln) (hb : tkB p (rst g0 ps a).2.2.2 (ps a) = true) (h59 : ps a ≠ 59) : JS ps ln (a + 1) (tkP p (ps a)) n bc bu := by
  obtain ⟨h1, h2, h3, h4⟩ := h
  refine ⟨ha, zfind_step h2 (by unfold bad; rw [h3, hb]; rfl), ?_, fun v => ?_⟩
  · show tkP (rst g0 ps a).1 _ = _
    rw [h3]
  · rw [sbV_succ, sbN_succ, if_neg (by omega), if_neg (fun q => by omega)]
    exact h4 v
theorem js_bad {ps : Nat → Nat} {ln a p n : Nat} {bc bu : Nat → Nat} (h : JS ps ln a p n bc bu) (hp : p < 4) (hb : a < ln → tkB p (rst g0 ps a).2.2.2 (ps a) = false) : ffR g0 ps ln = some a := by
  obtain ⟨h1, h2, h3, h4⟩ := h
  by_cases ha : a < ln
  · unfold ffR
    rw [zfind_hit h2 (by unfold bad; rw [h3, hb ha]; rfl) ha]
    rfl
  · have e : a = ln := by omega
    subst e
    unfold ffR
    rw [h2]
    show (if _ then _ else _) = _
    rw [if_neg (by omega)]
theorem dk_dgt {ps : Nat → Nat} {ln m a : Nat} (hm : m ≤ 9) (h : dk ps ln m a = true) : a < ln ∧ sgn ps ln a = ps a ∧ dgt (ps a) = some (sgn ps ln a - 48) ∧ sgn ps ln a - 48 ≤ m ∧ ps a ≠ 59 := by
  obtain ⟨h1, h2, h3⟩ := dk_in h
  have e : sgn ps ln a = ps a := by unfold sgn; rw [if_pos h1]
  rw [e] at h2 h3
  refine ⟨h1, e, ?_, by omega, by omega⟩
  unfold dgt
  rw [if_pos ⟨h2, by omega⟩, e]
theorem dk_no {ps : Nat → Nat} {ln m a : Nat} (h : dk ps ln m a = false) (ha : a < ln) : ¬(48 ≤ ps a ∧ ps a ≤ 48 + m) := by
  unfold dk sgn at h
  rw [if_pos ha, Bool.and_eq_false_iff, decide_eq_false_iff_not, decide_eq_false_iff_not] at h
  omega
theorem dgt_no {c : Nat} (h : ¬(48 ≤ c ∧ c ≤ 57)) : dgt c = none := by unfold dgt; rw [if_neg h]
/-- the sign at a + k, and the reader's state behind it -/
theorem js_d0 {ps : Nat → Nat} {ln a n : Nat} {bc bu : Nat → Nat} (h : JS ps ln a 0 n bc bu) (k0 : dk ps ln 9 a = true) : JS ps ln (a + 1) 1 n bc bu ∧ (rst g0 ps (a + 1)).2.1 = some (sgn ps ln a - 48) := by
  obtain ⟨i1, i2, i3, i4, i5⟩ := dk_dgt (by decide) k0
  refine ⟨js_step h i1 (by show (dgt _).isSome = true; rw [i3]; rfl) i5, ?_⟩
  show tkX (rst g0 ps a).1 _ _ = _
  rw [h.2.2.1]
  exact i3
theorem js_d1 {ps : Nat → Nat} {ln a n : Nat} {bc bu : Nat → Nat} (h : JS ps ln a 1 n bc bu) (k0 : dk ps ln 5 a = true) : JS ps ln (a + 1) 2 n bc bu ∧ (rst g0 ps (a + 1)).2.1 = (rst g0 ps a).2.1 ∧ (rst g0 ps (a + 1)).2.2.1 = some (sgn ps ln a - 48) := by
  obtain ⟨i1, i2, i3, i4, i5⟩ := dk_dgt (by decide) k0
  refine ⟨js_step h i1 (by show (dgt _).elim false _ = true; rw [i3]; exact decide_eq_true i4) i5, ?_, ?_⟩
  · show tkX (rst g0 ps a).1 _ _ = _
    rw [h.2.2.1]; rfl
  · show tkY (rst g0 ps a).1 _ _ = _
    rw [h.2.2.1]; exact i3
theorem js_d2 {ps : Nat → Nat} {ln a n : Nat} {bc bu : Nat → Nat} (h : JS ps ln a 2 n bc bu) (k0 : sgn ps ln a = 58) : JS ps ln (a + 1) 3 n bc bu ∧ (rst g0 ps (a + 1)).2.1 = (rst g0 ps a).2.1 ∧ (rst g0 ps (a + 1)).2.2.1 = (rst g0 ps a).2.2.1 := by
  have i1 : a < ln := sgn_in (ps := ps) (by rw [k0]; decide)
  have e : ps a = 58 := by unfold sgn at k0; rw [if_pos i1] at k0; exact k0
  refine ⟨js_step h i1 (decide_eq_true e) (by omega), ?_, ?_⟩
  · show tkX (rst g0 ps a).1 _ _ = _
    rw [h.2.2.1]; rfl
  · show tkY (rst g0 ps a).1 _ _ = _
    rw [h.2.2.1]; rfl
theorem js_d3 {ps : Nat → Nat} {ln a n : Nat} {bc bu : Nat → Nat} (h : JS ps ln a 3 n bc bu) (k0 : dk ps ln 9 a = true) : JS ps ln (a + 1) 4 n bc bu ∧ (rst g0 ps (a + 1)).2.1 = (rst g0 ps a).2.1 ∧ (rst g0 ps (a + 1)).2.2.1 = (rst g0 ps a).2.2.1 ∧ (rst g0 ps (a + 1)).2.2.2 = some (sgn ps ln a - 48) := by
  obtain ⟨i1, i2, i3, i4, i5⟩ := dk_dgt (by decide) k0
  refine ⟨js_step h i1 (by show (dgt _).isSome = true; rw [i3]; rfl) i5, ?_, ?_, ?_⟩
  · show tkX (rst g0 ps a).1 _ _ = _
    rw [h.2.2.1]; rfl
  · show tkY (rst g0 ps a).1 _ _ = _
    rw [h.2.2.1]; rfl
  · show tkU (rst g0 ps a).1 _ _ = _
    rw [h.2.2.1]; exact i3
theorem prs_ok {ps : Nat → Nat} {ln a' u' n x y : Nat} {bc bu : Nat → Nat} : ∀ (k q u : Nat), JS ps ln q 4 n bc bu → rst g0 ps q = (4, some x, some y, some u) → ((k = 2 ∧ u ≤ 9) ∨ (k = 1 ∧ 10 ≤ u ∧ u ≤ 99) ∨ (k = 0 ∧ 100 ≤ u ∧ u ≤ 999)) → prs ps ln k q u = (a', u') → JS ps ln a' 4 n bc bu ∧ rst g0 ps a' = (4, some x, some y, some u') ∧ (a' < ln → ps a' ≠ 59 → bad g0 ps a' = true)
  | 0, q, u, h, hr, hk, hp => by
    have hp2 : (q, u) = (a', u') := hp
    cases hp2
    refine ⟨h, hr, fun ha h59 => ?_⟩
    unfold bad
    rw [hr]
    show (!(if ps a' = 59 then true else _)) = true
    rw [if_neg h59]
    cases hd : dgt (ps a') with
    | none => rfl
    | some d =>
      show (!(decide (u' ≠ 0 ∧ u' * 10 + d ≤ 999))) = true
      rw [decide_eq_false (by omega)]; rfl
  | k + 1, q, u, h, hr, hk, hp => by
    rw [prs_succ] at hp
    by_cases hu : u = 0
    · rw [if_pos hu] at hp
      cases hp
      refine ⟨h, hr, fun ha h59 => ?_⟩
      unfold bad
      rw [hr]
      show (!(if ps a' = 59 then true else _)) = true
      rw [if_neg h59]
      cases hd : dgt (ps a') with
      | none => rfl
      | some d =>
        show (!(decide (u' ≠ 0 ∧ u' * 10 + d ≤ 999))) = true
        rw [decide_eq_false (by omega)]; rfl
    · rw [if_neg hu] at hp
      cases hdk : dk ps ln 9 q with
      | false =>
        rw [hdk, if_neg (by decide)] at hp
        cases hp
        refine ⟨h, hr, fun ha h59 => ?_⟩
        unfold bad
        rw [hr]
        show (!(if ps a' = 59 then true else _)) = true
        rw [if_neg h59, dgt_no (dk_no hdk ha)]
        rfl
      | true =>
        rw [hdk, if_pos rfl] at hp
        obtain ⟨i1, i2, i3, i4, i5⟩ := dk_dgt (by decide) hdk
        have hB : tkB 4 (some u) (ps q) = true := by
          show (if ps q = 59 then true else _) = true
          rw [if_neg i5, i3]
          exact decide_eq_true (by omega)
        have hT : tkP 4 (ps q) = 4 := by show (if ps q = 59 then 0 else 4) = 4; rw [if_neg i5]
        have hs := js_step h i1 (by rw [hr]; exact hB) i5
        rw [hT] at hs
        refine prs_ok k (q + 1) (u * 10 + (sgn ps ln q - 48)) hs ?_ (by omega) hp
        show tkS (rst g0 ps q) (ps q) = _
        rw [hr]
        show (tkP 4 (ps q), tkX 4 (some x) (ps q), tkY 4 (some y) (ps q), tkU 4 (some u) (ps q)) = _
        rw [hT]
        have hU : tkU 4 (some u) (ps q) = some (u * 10 + (sgn ps ln q - 48)) := by
          unfold tkU
          rw [if_neg (by decide), if_pos ⟨rfl, i5, hB⟩, i3]
          rfl
        rw [hU]
        rfl
theorem rd_ok {ps : Nat → Nat} {ln a a' c u n : Nat} {bc bu : Nat → Nat} (h : JS ps ln a 0 n bc bu) (hT : rdT ps ln a a' c u) : J4 ps ln a' n (fset bc n c) (fset bu n u) ∧ a + 4 ≤ a' := by
  obtain ⟨k0, k1, k2, k3, hc, hp, hu9, hc60⟩ := hT
  obtain ⟨s1, x1⟩ := js_d0 h k0
  obtain ⟨s2, x2, y2⟩ := js_d1 s1 k1
  obtain ⟨s3, x3, y3⟩ := js_d2 s2 k2
  obtain ⟨s4, x4, y4, u4⟩ := js_d3 s3 k3
  have hr : rst g0 ps (a + 3 + 1) = (4, some (sgn ps ln a - 48), some (sgn ps ln (a + 1) - 48), some (sgn ps ln (a + 3) - 48)) := by
    rw [← x1, ← x2, ← x3, ← x4, ← y2, ← y3, ← y4, ← u4, ← s4.2.2.1]
  have i4 := (dk_dgt (by decide) k3).2.2.2.1
  obtain ⟨t1, t2, t3⟩ := prs_ok 2 (a + 3 + 1) _ s4 hr (Or.inl ⟨rfl, i4⟩) hp
  have hle : ∀ k q u, prs ps ln k q u = (a', u) ∨ True → q ≤ (prs ps ln k q u).1 := by
    intro k
    induction k with
    | zero => intro q u _; exact Nat.le_refl _
    | succ k ih =>
      intro q u _
      rw [prs_succ]
      split
      · exact Nat.le_refl _
      · split
        · have := ih (q + 1) (u * 10 + (sgn ps ln q - 48)) (Or.inr trivial)
          omega
        · exact Nat.le_refl _
  have h5 := hle 2 (a + 3 + 1) (sgn ps ln (a + 3) - 48) (Or.inr trivial)
  rw [show a + 3 + 1 = a + 4 from rfl, hp] at h5
  have cg : ∀ j, j < n → bc j = fset bc n c j ∧ bu j = fset bu n u j := fun j hj => ⟨(fset_ne bc c (by omega)).symm, (fset_ne bu u (by omega)).symm⟩
  refine ⟨⟨⟨t1.1, t1.2.1, t1.2.2.1, fun v => ?_⟩, ⟨_, _, _, t2, ?_, fset_self _ _ _⟩, t3⟩, h5⟩
  · rw [← mV_congr v cg, ← mN_congr v cg]; exact t1.2.2.2 v
  · rw [fset_self, hc]
theorem rd_bad {ps : Nat → Nat} {ln a a' n : Nat} {bc bu : Nat → Nat} (h : JS ps ln a 0 n bc bu) (hF : rdF ps ln a a') : ffR g0 ps ln = some a' := by
  rcases hF with ⟨rfl, k0⟩ | ⟨rfl, k0, k1⟩ | ⟨rfl, k0, k1, k2⟩ | ⟨rfl, k0, k1, k2, k3⟩
  · refine js_bad h (by decide) (fun ha => ?_)
    show (dgt _).isSome = false
    rw [dgt_no (dk_no k0 ha)]; rfl
  · refine js_bad (js_d0 h k0).1 (by decide) (fun ha => ?_)
    show (dgt _).elim false _ = false
    cases hd : dgt (ps (a + 1)) with
    | none => rfl
    | some d =>
      have h1 := dgt_le hd
      have h2 := dk_no k1 ha
      exact decide_eq_false (by omega)
  · refine js_bad (js_d1 (js_d0 h k0).1 k1).1 (by decide) (fun ha => ?_)
    refine decide_eq_false (fun q => k2 ?_)
    unfold sgn
    rw [if_pos ha]; exact q
  · refine js_bad (js_d2 (js_d1 (js_d0 h k0).1 k1).1 k2).1 (by decide) (fun ha => ?_)
    show (dgt _).isSome = false
    rw [dgt_no (dk_no k3 ha)]; rfl
theorem js_semi {ps : Nat → Nat} {ln a n : Nat} {bc bu : Nat → Nat} (h : J4 ps ln a n bc bu) (ha : a < ln) (h59 : ps a = 59) : JS ps ln (a + 1) 0 (n + 1) bc bu := by
  obtain ⟨⟨h1, h2, h3, h4⟩, ⟨x, y, u, hr, hc, hu⟩, -⟩ := h
  have hr2 : rst g0 ps (a + 1) = (0, some x, some y, some u) := by
    show tkS (rst g0 ps a) (ps a) = _
    rw [hr, h59]
    rfl
  refine ⟨ha, zfind_step h2 (by unfold bad; rw [hr, h59]; rfl), by rw [hr2], fun v => ?_⟩
  rw [sbV_succ, sbN_succ, if_pos (Or.inr h59), hr2, (h4 v).1, (h4 v).2]
  show sellV (mV bc bu v n) (y * 10 + x) u = sellV (mV bc bu v n) (bc n) (bu n) ∧ mN bc bu v n + (if _ ∧ sells (mV bc bu v n) (y * 10 + x) u = true then 1 else 0) = mN bc bu v n + (if sells (mV bc bu v n) (bc n) (bu n) = true then 1 else 0)
  rw [hc, hu]
  refine ⟨rfl, ?_⟩
  by_cases hs : sells (mV bc bu v n) (y * 10 + x) u = true
  · rw [if_pos ⟨Or.inr h59, hs⟩, if_pos hs]
  · rw [if_neg (fun q => hs q.2), if_neg hs]
theorem js_stuck {ps : Nat → Nat} {ln a n : Nat} {bc bu : Nat → Nat} (h : J4 ps ln a n bc bu) (ha : a < ln) (h59 : ps a ≠ 59) : ffR g0 ps ln = some a := by
  unfold ffR
  rw [zfind_hit h.1.2.1 (h.2.2 ha h59) ha]
  rfl
theorem sb_pre {ps : Nat → Nat} {ln : Nat} (v : Wv) : ∀ k, k < ln → sbV g0 ps ln v k = sbV g0 ps (ln + 1) v k ∧ sbN g0 ps ln v k = sbN g0 ps (ln + 1) v k
  | 0, _ => ⟨rfl, rfl⟩
  | k + 1, hk => by
    obtain ⟨i1, i2⟩ := sb_pre (ps := ps) (ln := ln) v k (by omega)
    rw [sbV_succ, sbV_succ, sbN_succ, sbN_succ, i1, i2]
    by_cases h59 : ps k = 59
    · rw [if_pos (Or.inr h59), if_pos (Or.inr h59)]
      refine ⟨rfl, ?_⟩
      congr 1
      split
      · rename_i q; rw [if_pos ⟨Or.inr h59, q.2⟩]
      · rename_i q; rw [if_neg (fun w => q ⟨Or.inr h59, w.2⟩)]
    · rw [if_neg (show ¬(k + 1 = ln ∨ ps k = 59) by omega), if_neg (show ¬(k + 1 = ln + 1 ∨ ps k = 59) by omega), if_neg (fun q => absurd q.1 (by omega)), if_neg (fun q => absurd q.1 (by omega))]
      exact ⟨rfl, rfl⟩
theorem js_end {ps : Nat → Nat} {ln a n : Nat} {bc bu : Nat → Nat} (h : J4 ps ln a n bc bu) (ha : ¬ a < ln) : ffR g0 ps ln = none ∧ ∀ v, sbV g0 ps ln v ln = mV bc bu v (n + 1) ∧ sbN g0 ps ln v ln = mN bc bu v (n + 1) := by
  obtain ⟨⟨h1, h2, h3, h4⟩, ⟨x, y, u, hr, hc, hu⟩, -⟩ := h
  have e : a = ln := by omega
  subst e
  refine ⟨by unfold ffR; rw [h2]; show (if _ then _ else _) = _; rw [if_pos h3], fun v => ?_⟩
  cases a with
  | zero => cases h3
  | succ j =>
    have hz : zfind (bad g0 ps) j = none := zfind_pre h2 (by omega)
    have h59 : ps j ≠ 59 := by
      intro q
      have hb := zfind_none h2 j (by omega)
      have hb2 : tkB (rst g0 ps j).1 (rst g0 ps j).2.2.2 (ps j) = true := by
        unfold bad at hb
        simpa using hb
      rw [q] at hb2
      have h44 := tkB_59 (rst_le g0 ps j) hb2
      have h5 : tkP (rst g0 ps j).1 (ps j) = 4 := h3
      rw [h44, q] at h5
      cases h5
    obtain ⟨i1, i2⟩ := sb_pre (ps := ps) (ln := j + 1) v j (by omega)
    obtain ⟨i3, i4⟩ := h4 v
    rw [sbV_succ, if_neg (by omega)] at i3
    rw [sbN_succ, if_neg (by omega)] at i4
    rw [sbV_succ, sbN_succ, if_pos (Or.inl rfl), hr, i1, i2, i3]
    show sellV (mV bc bu v n) (y * 10 + x) u = sellV (mV bc bu v n) (bc n) (bu n) ∧ sbN g0 ps (j + 1 + 1) v j + (if _ ∧ sells (mV bc bu v n) (y * 10 + x) u = true then 1 else 0) = mN bc bu v n + (if sells (mV bc bu v n) (bc n) (bu n) = true then 1 else 0)
    rw [hc, hu, ← i4]
    refine ⟨rfl, ?_⟩
    by_cases hs : sells (mV bc bu v n) (y * 10 + x) u = true
    · rw [if_pos ⟨Or.inl rfl, hs⟩, if_pos hs]
    · rw [if_neg (fun q => hs q.2), if_neg hs]
/-- the buyers that were read so far, in the check's row -/
def BUo (BU : Nat → Int32) (n : Nat) (bc bu : Nat → Nat) : Prop := ∀ j, j < n → BU (2 * j) = nI (bc j) ∧ BU (2 * j + 1) = nI (bu j) ∧ bc j < 60 ∧ bu j ≤ 999
theorem BUo.add {BU BU1 : Nat → Int32} {n c u : Nat} {bc bu : Nat → Nat} (h : BUo BU n bc bu) (e : ∀ i, BU1 i = if i = 2 * n + 1 then nI u else if i = 2 * n then nI c else BU i) (hc : c < 60) (hu : u ≤ 999) : BUo BU1 (n + 1) (fset bc n c) (fset bu n u) := by
  intro j hj
  by_cases hjn : j = n
  · subst hjn
    rw [e, e, if_neg (by omega), if_pos rfl, if_pos rfl, fset_self, fset_self]
    exact ⟨rfl, rfl, hc, hu⟩
  · rw [e, e, if_neg (by omega), if_neg (by omega), if_neg (by omega), if_neg (by omega), fset_ne _ _ hjn, fset_ne _ _ hjn]
    exact h j (by omega)

set_option maxHeartbeats 4000000 in
set_option maxRecDepth 100000 in
theorem c_X6_reads (l : Launch) (G : zG) (B0 : Nat) (M : Mm) (d : Nat) (t un at' w bm : Int32) (ln : Nat) (ps : Nat → Nat) (v : Wv) (A U L K SE SH BU : Nat → Int32) (hM : Md G d (sg t un (nI ln) at' w bm) (xs v A U L K (fun i => nI (ps i)) SE SH BU) M) (hv : wOk v) (hBd : B0 ≤ d) (hln : ln ≤ 60) (hps : ∀ i, i < ln → ps i < 128) : zMet l yX6_reads cX6_reads 1 (some .int) 3 0 0 G B0 M [.ref d] (some (.int (oI (flt ps ln)))) (fun M1 => ∃ a1 w1 bm1 BU1, Md G d (sg t un (nI ln) a1 w1 (nI bm1)) (xs v A U L K (fun i => nI (ps i)) SE SH BU1) M1 ∧ (flt ps ln = none → ∃ bc bu, bm1 ≤ 12 ∧ BUo BU1 bm1 bc bu ∧ ∀ v, sbV g0 ps ln v ln = mV bc bu v bm1 ∧ sbN g0 ps ln v ln = mN bc bu v bm1) ∧ ∀ q, (q < d ∨ d + 10 ≤ q) → M1 q = M q) := by
  refine z_met RX6 [(0, .ref d)] (by decide) rfl (Nat.le_of_ble_eq_true rfl) rfl ?_
  intro pg ev s m below meth cd ls hE hin hB0 hH hl
  have hx := hE.1
  have hb := hE.2.1
  have hn : v 0 ≤ 12 := hv.1
  have hA : zArr G 0 M (d + 1) 818 (fun i => nI (v i)) := hM.s (fun _ _ => rfl)
  have hF : ∀ q, (q < d ∨ d + 10 ≤ q) → M q = M q := fun _ _ => rfl
  refine z_gen B0 (fun H locs hH hS => ?_) hH
  refine lv_aload_n hx hb dX6_reads_0 rfl (lv_at hl 0 rfl) ?_
  refine n_iconst hx hb 0 dX6_reads_1 (by decide) ?_
  refine z_put (T := TX6) hE hH hS hM.1 rfl uw_X6 tyX6 tyX6_ok nmX6 11 (by decide) fkX6_140 rfl rfl rfl (Nat.le_of_ble_eq_true rfl) (by omega) dX6_reads_2 (fun H locs M3 hH hS e1 o2 => ?_)
  have hM4 : Md G d (sg t un (nI ln) (nI 0) w bm) (xs v A U L K (fun i => nI (ps i)) SE SH BU) M3 := Md.setC hM e1 o2
  have hA5 := hM4.s (fun _ _ => rfl)
  have hF6 := fun q hq => (o2 q (by omega)).trans (hF q hq)
  refine lv_aload_n hx hb dX6_reads_5 rfl (lv_at hl 0 rfl) ?_
  refine n_iconst hx hb 1 dX6_reads_6 (by decide) ?_
  refine z_put (T := TX6) hE hH hS hM4.1 rfl uw_X6 tyX6 tyX6_ok nmX6 12 (by decide) fkX6_143 rfl rfl rfl (Nat.le_of_ble_eq_true rfl) (by omega) dX6_reads_7 (fun H locs M9 hH hS e7 o8 => ?_)
  have hM10 : Md G d (sg t un (nI ln) (nI 0) (zb true) bm) (xs v A U L K (fun i => nI (ps i)) SE SH BU) M9 := Md.setC hM4 e7 o8
  have hA11 := hM10.s (fun _ _ => rfl)
  have hF12 := fun q hq => (o8 q (by omega)).trans (hF6 q hq)
  refine lv_aload_n hx hb dX6_reads_10 rfl (lv_at hl 0 rfl) ?_
  refine n_iconst hx hb 0 dX6_reads_11 (by decide) ?_
  refine z_put (T := TX6) hE hH hS hM10.1 rfl uw_X6 tyX6 tyX6_ok nmX6 14 (by decide) fkX6_107 rfl rfl rfl (Nat.le_of_ble_eq_true rfl) (by omega) dX6_reads_12 (fun H locs M15 hH hS e13 o14 => ?_)
  have hM16 : Md G d (sg t un (nI ln) (nI 0) (zb true) (nI 0)) (xs v A U L K (fun i => nI (ps i)) SE SH BU) M15 := Md.setC hM10 e13 o14
  have hA17 := hM16.s (fun _ _ => rfl)
  have hF18 := fun q hq => (o14 q (by omega)).trans (hF12 q hq)
  refine lv_aload_n hx hb dX6_reads_15 rfl (lv_at hl 0 rfl) ?_
  refine z_callV (rest := []) (st2 := []) hE hH hS hB0 hl ca_X6_readsBuyer mkX6_156 (c_X6_readsBuyer l G B0 M15 d t un 0 ln 0 ps v A U L K SE SH BU hM16 hv (by omega) (by omega) hps (by omega) (by omega)) hM16.1 rfl rfl rfl rfl rfl ⟨Nat.le_of_ble_eq_true rfl, Nat.le_of_ble_eq_true rfl⟩ (Nat.le_of_ble_eq_true rfl) ⟨Nat.le_refl _, Nat.le_refl _⟩ dX6_reads_16 (fun H locs M19 hH hp hS => ?_)
  obtain ⟨a20, b20, m20, BU20, hM21, hQ20, hG22⟩ := hp
  have hF23 := fun q hq => (hG22 q hq).trans (hF18 q hq)
  rcases hQ20 with ⟨rfl, rfl, hF4⟩ | ⟨rfl, rfl, hal, c20, u20, hT, hBU⟩
  · have hff := rd_bad (js_0 ps ln (fun _ => 0) (fun _ => 0)) hF4
    have hA20 : zArr G 0 M19 (d + 1) 818 (fun i => nI (v i)) := hM21.s (fun _ _ => rfl)
    refine lv_aload_n hx hb dX6_reads_19 rfl (lv_at hl 0 rfl) ?_
    refine z_get (T := TX6) (v := .int (zb false)) hE hH hM21.1 rfl uw_X6 12 (by decide) fkX6_143 rfl dX6_reads_20 ?_
    refine b_if_eq (tgt := 57) hx hb dX6_reads_23 (by decide) (fun _ => ?_) (fun h => Bool.noConfusion h)
    refine lv_aload_n hx hb dX6_reads_57 rfl (lv_at hl 0 rfl) ?_
    refine z_get (T := TX6) (v := .int (zb false)) hE hH hM21.1 rfl uw_X6 12 (by decide) fkX6_143 rfl dX6_reads_58 ?_
    refine b_if_eq (tgt := 69) hx hb dX6_reads_61 (by decide) (fun _ => ?_) (fun h => Bool.noConfusion h)
    refine lv_aload_n hx hb dX6_reads_69 rfl (lv_at hl 0 rfl) ?_
    refine z_get (T := TX6) (v := .int (nI a20)) hE hH hM21.1 rfl uw_X6 11 (by decide) fkX6_140 rfl dX6_reads_70 ?_
    exact z_iret hE hH hS (by rw [show flt ps ln = _ from hff]; rfl) ⟨_, _, _, _, hM21, fun q => absurd (hff.symm.trans q) (fun h => by cases h), hF23⟩ dX6_reads_73
  · have hJ := rd_ok (js_0 ps ln (fun _ => 0) (fun _ => 0)) hT
    have hBo2 := BUo.add (BU := BU) (bc := fun _ => 0) (bu := fun _ => 0) (fun j hj => absurd hj (Nat.not_lt_zero j)) hBU hT.2.2.2.2.2.2.2 hT.2.2.2.2.2.2.1
    have hA20 : zArr G 0 M19 (d + 1) 818 (fun i => nI (v i)) := hM21.s (fun _ _ => rfl)
    have L19 : ∀ (dd : Nat) (a : Nat) (n : Nat) (bc : Nat → Nat) (bu : Nat → Nat) (BU1 : Nat → Int32) (M1 : Mm), ln < a + dd → (Md G d (sg t un (nI ln) (nI a) (zb true) (nI (n + 1))) (xs v A U L K (fun i => nI (ps i)) SE SH BU1) M1) → (∀ q, (q < d ∨ d + 10 ≤ q) → M1 q = M q) → (J4 ps ln a n bc bu) → (BUo BU1 (n + 1) bc bu) → (a ≤ ln) → (5 * n + 4 ≤ a) → ∀ (H : Heap) (locs : List Loc), zH G M1 H → zS 0 B0 s.heap H locs → ∀ (ls : Array Slot), lv_has ls 1 [(0, .ref d)] → zW pg l ev 3 0 0 s m [.ref d] below meth cd H locs 0 0 G B0 (some (.int (oI (flt ps ln)))) (fun M1 => ∃ a1 w1 bm1 BU1, Md G d (sg t un (nI ln) a1 w1 (nI bm1)) (xs v A U L K (fun i => nI (ps i)) SE SH BU1) M1 ∧ (flt ps ln = none → ∃ bc bu, bm1 ≤ 12 ∧ BUo BU1 bm1 bc bu ∧ ∀ v, sbV g0 ps ln v ln = mV bc bu v bm1 ∧ sbN g0 ps ln v ln = mN bc bu v bm1) ∧ ∀ q, (q < d ∨ d + 10 ≤ q) → M1 q = M q) (F0 m 19 ls []) := by
      intro dd
      induction dd with
      | zero =>
        intro a n bc bu BU1 M1 hdd hM1 hF1 hJ4 hBo hal hnm
        exact absurd hdd (by omega)
      | succ dd ih =>
        intro a n bc bu BU1 M1 hdd hM1 hF1 hJ4 hBo hal hnm H locs hH hS ls hl
        have hA1 : zArr G 0 M1 (d + 1) 818 (fun i => nI (v i)) := hM1.s (fun _ _ => rfl)
        refine lv_aload_n hx hb dX6_reads_19 rfl (lv_at hl 0 rfl) ?_
        refine z_get (T := TX6) (v := .int (zb true)) hE hH hM1.1 rfl uw_X6 12 (by decide) fkX6_143 rfl dX6_reads_20 ?_
        refine b_if_eq (tgt := 57) hx hb dX6_reads_23 (by decide) (fun h => Bool.noConfusion h) (fun _ => ?_)
        refine lv_aload_n hx hb dX6_reads_26 rfl (lv_at hl 0 rfl) ?_
        refine z_get (T := TX6) (v := .int (nI a)) hE hH hM1.1 rfl uw_X6 11 (by decide) fkX6_140 rfl dX6_reads_27 ?_
        refine lv_aload_n hx hb dX6_reads_30 rfl (lv_at hl 0 rfl) ?_
        refine z_get (T := TX6) (v := .int (nI ln)) hE hH hM1.1 rfl uw_X6 8 (by decide) fkX6_104 rfl dX6_reads_31 ?_
        refine n_cmp_ge (tgt := 57) hx hb (by omega) (by omega) dX6_reads_34 (by decide) (fun h27 => ?_) (fun h27 => ?_)
        · have hje := js_end hJ4 (by omega)
          refine lv_aload_n hx hb dX6_reads_57 rfl (lv_at hl 0 rfl) ?_
          refine z_get (T := TX6) (v := .int (zb true)) hE hH hM1.1 rfl uw_X6 12 (by decide) fkX6_143 rfl dX6_reads_58 ?_
          refine b_if_eq (tgt := 69) hx hb dX6_reads_61 (by decide) (fun h => Bool.noConfusion h) (fun _ => ?_)
          refine lv_bipush (v := (-6)) hx hb dX6_reads_64 (by decide) ?_
          refine lv_goto (tgt := 73) hx hb dX6_reads_66 (by decide) ?_
          exact z_iret hE hH hS (by rw [show flt ps ln = _ from hje.1]; rfl) ⟨_, _, n + 1, _, hM1, fun _ => ⟨bc, bu, by omega, hBo, hje.2⟩, hF1⟩ dX6_reads_73
        · refine lv_aload_n hx hb dX6_reads_37 rfl (lv_at hl 0 rfl) ?_
          refine n_bipush hx hb 59 dX6_reads_38 (by decide) ?_
          refine z_callV (rest := []) (st2 := []) hE hH hS hB0 hl ca_X6_wants mkX6_153 (c_X6_wants l G B0 M1 d t un (nI (n + 1)) ln a true ps v A U L K SE SH BU1 hM1 hv (by omega) (by omega) hps (by omega) 59 (by omega)) hM1.1 rfl rfl rfl rfl rfl ⟨Nat.le_of_ble_eq_true rfl, Nat.le_of_ble_eq_true rfl⟩ (Nat.le_of_ble_eq_true rfl) ⟨Nat.le_refl _, Nat.le_refl _⟩ dX6_reads_40 (fun H locs M30 hH hp hS => ?_)
          obtain ⟨b29, a29, hb29, ha29, hM31, hG32⟩ := hp
          have hA34 := hM31.s (fun _ _ => rfl)
          have hF33 := fun q hq => (hG32 q hq).trans (hF1 q hq)
          have hl29 : a29 ≤ ln := wd_le hb29 ha29 (by omega) (fun q => sgn_in (by rw [of_decide_eq_true q]; decide))
          rcases Bool.eq_false_or_eq_true b29 with hwt | hwt
          · subst hwt
            have ha59 : a29 = a + 1 := ha29
            have h59 : ps a = 59 := by have h0 := of_decide_eq_true (hb29.symm); unfold sgn at h0; rw [if_pos (by assumption)] at h0; exact h0
            subst ha59
            have hjs := js_semi hJ4 (by assumption) h59
            refine lv_aload_n hx hb dX6_reads_43 rfl (lv_at hl 0 rfl) ?_
            refine z_get (T := TX6) (v := .int (zb true)) hE hH hM31.1 rfl uw_X6 12 (by decide) fkX6_143 rfl dX6_reads_44 ?_
            refine b_if_eq (tgt := 19) hx hb dX6_reads_47 (by decide) (fun h => Bool.noConfusion h) (fun _ => ?_)
            refine lv_aload_n hx hb dX6_reads_50 rfl (lv_at hl 0 rfl) ?_
            refine z_callV (rest := []) (st2 := []) hE hH hS hB0 hl ca_X6_readsBuyer mkX6_156 (c_X6_readsBuyer l G B0 M30 d t un (n + 1) ln (a + 1) ps v A U L K SE SH BU1 hM31 hv (by omega) (by omega) hps (by omega) (by omega)) hM31.1 rfl rfl rfl rfl rfl ⟨Nat.le_of_ble_eq_true rfl, Nat.le_of_ble_eq_true rfl⟩ (Nat.le_of_ble_eq_true rfl) ⟨Nat.le_refl _, Nat.le_refl _⟩ dX6_reads_51 (fun H locs M36 hH hp hS => ?_)
            obtain ⟨a37, b37, m37, BU37, hM38, hQ37, hG39⟩ := hp
            have hF40 := fun q hq => (hG39 q hq).trans (hF33 q hq)
            rcases hQ37 with ⟨rfl, rfl, hF4⟩ | ⟨rfl, rfl, hal, c37, u37, hT, hBU⟩
            · have hff := rd_bad hjs hF4
              have hA37 : zArr G 0 M36 (d + 1) 818 (fun i => nI (v i)) := hM38.s (fun _ _ => rfl)
              refine lv_goto (tgt := 19) hx hb dX6_reads_54 (by decide) ?_
              refine lv_aload_n hx hb dX6_reads_19 rfl (lv_at hl 0 rfl) ?_
              refine z_get (T := TX6) (v := .int (zb false)) hE hH hM38.1 rfl uw_X6 12 (by decide) fkX6_143 rfl dX6_reads_20 ?_
              refine b_if_eq (tgt := 57) hx hb dX6_reads_23 (by decide) (fun _ => ?_) (fun h => Bool.noConfusion h)
              refine lv_aload_n hx hb dX6_reads_57 rfl (lv_at hl 0 rfl) ?_
              refine z_get (T := TX6) (v := .int (zb false)) hE hH hM38.1 rfl uw_X6 12 (by decide) fkX6_143 rfl dX6_reads_58 ?_
              refine b_if_eq (tgt := 69) hx hb dX6_reads_61 (by decide) (fun _ => ?_) (fun h => Bool.noConfusion h)
              refine lv_aload_n hx hb dX6_reads_69 rfl (lv_at hl 0 rfl) ?_
              refine z_get (T := TX6) (v := .int (nI a37)) hE hH hM38.1 rfl uw_X6 11 (by decide) fkX6_140 rfl dX6_reads_70 ?_
              exact z_iret hE hH hS (by rw [show flt ps ln = _ from hff]; rfl) ⟨_, _, _, _, hM38, fun q => absurd (hff.symm.trans q) (fun h => by cases h), hF40⟩ dX6_reads_73
            · have hJ := rd_ok hjs hT
              have hBo2 := BUo.add hBo hBU hT.2.2.2.2.2.2.2 hT.2.2.2.2.2.2.1
              have hA37 : zArr G 0 M36 (d + 1) 818 (fun i => nI (v i)) := hM38.s (fun _ _ => rfl)
              refine lv_goto (tgt := 19) hx hb dX6_reads_54 (by decide) ?_
              exact ih  a37 (n + 1) (fset bc (n + 1) c37) (fset bu (n + 1) u37) BU37 M36 (by omega) hM38 hF40 hJ.1 hBo2 hal (by have := hJ.2; omega) _ _ hH hS _ (lv_sub hl [0] rfl)
          · subst hwt
            have ha59 : a = a29 := ha29.symm
            have h59 : ps a ≠ 59 := fun q => by have h0 := of_decide_eq_false (hb29.symm); unfold sgn at h0; rw [if_pos (by assumption)] at h0; exact h0 q
            subst ha59
            have hff := js_stuck hJ4 (by assumption) h59
            refine lv_aload_n hx hb dX6_reads_43 rfl (lv_at hl 0 rfl) ?_
            refine z_get (T := TX6) (v := .int (zb false)) hE hH hM31.1 rfl uw_X6 12 (by decide) fkX6_143 rfl dX6_reads_44 ?_
            refine b_if_eq (tgt := 19) hx hb dX6_reads_47 (by decide) (fun _ => ?_) (fun h => Bool.noConfusion h)
            refine lv_aload_n hx hb dX6_reads_19 rfl (lv_at hl 0 rfl) ?_
            refine z_get (T := TX6) (v := .int (zb false)) hE hH hM31.1 rfl uw_X6 12 (by decide) fkX6_143 rfl dX6_reads_20 ?_
            refine b_if_eq (tgt := 57) hx hb dX6_reads_23 (by decide) (fun _ => ?_) (fun h => Bool.noConfusion h)
            refine lv_aload_n hx hb dX6_reads_57 rfl (lv_at hl 0 rfl) ?_
            refine z_get (T := TX6) (v := .int (zb false)) hE hH hM31.1 rfl uw_X6 12 (by decide) fkX6_143 rfl dX6_reads_58 ?_
            refine b_if_eq (tgt := 69) hx hb dX6_reads_61 (by decide) (fun _ => ?_) (fun h => Bool.noConfusion h)
            refine lv_aload_n hx hb dX6_reads_69 rfl (lv_at hl 0 rfl) ?_
            refine z_get (T := TX6) (v := .int (nI a)) hE hH hM31.1 rfl uw_X6 11 (by decide) fkX6_140 rfl dX6_reads_70 ?_
            exact z_iret hE hH hS (by rw [show flt ps ln = _ from hff]; rfl) ⟨_, _, _, _, hM31, fun q => absurd (hff.symm.trans q) (fun h => by cases h), hF33⟩ dX6_reads_73
    exact L19 (ln + 1) a20 0 (fset (fun _ => 0) 0 c20) (fset (fun _ => 0) 0 u20) BU20 M19 (by omega) hM21 hF23 hJ.1 hBo2 hal (by have := hJ.2; omega) _ _ hH hS _ (lv_sub hl [0] rfl)
