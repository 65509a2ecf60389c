/-! ===== rows of the class: what their methods do ===== -/
theorem sp_get {h i n : Nat} {M : Mem} {Q : Int32 → Mem → Prop} (k : kdT h = 3) (hs : M h 1 = nI n) (hi : i < n) (hn : n ≤ lnT (h + 1)) (hl : lnT (h + 1) < 2 ^ 31) (hQ : Q (M (h + 1) i) M) : wp_X3_get h (nI i) M Q := by
  unfold wp_X3_get
  refine ⟨k, br_f (nI_pos (by omega)) ?_⟩
  rw [hs]
  refine br_f (nI_ge hi (by omega)) ⟨vp_in_nI (by omega) hl, ?_⟩
  rw [nI_clamp (by omega)]
  exact hQ
theorem sp_get0 {h i n : Nat} {M : Mem} {Q : Int32 → Mem → Prop} (k : kdT h = 3) (hs : M h 1 = nI n) (hi : n ≤ i) (hl : i < 2 ^ 31) (hQ : Q 0 M) : wp_X3_get h (nI i) M Q := by
  unfold wp_X3_get
  refine ⟨k, br_f (nI_pos (by omega)) ?_⟩
  rw [hs]
  exact br_t (nI_le hi hl) hQ
theorem sp_append {h n : Nat} {v : Int32} {M : Mem} {Q : Int32 → Mem → Prop} (k : kdT h = 3) (hs : M h 1 = nI n) (hn : n < lnT (h + 1)) (hl : lnT (h + 1) < 2 ^ 31) (hQ : Q 1 (mu (mu M (h + 1) n v) h 1 (nI (n + 1)))) : wp_X3_append h v M Q := by
  unfold wp_X3_append
  refine ⟨k, ?_⟩
  rw [hs]
  refine br_t (nI_lt hn hl) ⟨vp_in_nI hn hl, ?_⟩
  rw [nI_clamp (by omega)]
  intro M3 e3 M4 e4
  subst e3
  rw [mu_ne (by omega), hs, nI_1] at e4
  subst e4
  exact hQ
theorem sp_appendFull {h n : Nat} {v : Int32} {M : Mem} {Q : Int32 → Mem → Prop} (k : kdT h = 3) (hs : M h 1 = nI n) (hn : lnT (h + 1) ≤ n) (hl : n < 2 ^ 31) (hQ : Q 0 M) : wp_X3_append h v M Q := by
  unfold wp_X3_append
  refine ⟨k, ?_⟩
  rw [hs]
  exact br_f (nI_nlt hn hl) hQ
theorem sp_clear {h : Nat} {M : Mem} {Q : Mem → Prop} (k : kdT h = 3) (hQ : Q (mu M h 1 0)) : wp_X3_clear h M Q := ⟨k, fun _ e => e ▸ hQ⟩
theorem sp_takeLast {h n : Nat} {M : Mem} {Q : Int32 → Mem → Prop} (k : kdT h = 3) (hs : M h 1 = nI (n + 1)) (hn : n < lnT (h + 1)) (hl : lnT (h + 1) < 2 ^ 31) (hQ : Q (M (h + 1) n) (mu M h 1 (nI n))) : wp_X3_takeLast h M Q := by
  unfold wp_X3_takeLast
  refine ⟨k, ?_⟩
  rw [hs]
  have h0 : (0 : Int32) < nI (n + 1) := by rw [← nI_0]; exact nI_lt (by omega) (by omega)
  refine br_t h0 ?_
  intro M2 e2
  rw [nI_pred] at e2
  subst e2
  rw [mu_hit]
  refine ⟨vp_in_nI hn hl, ?_⟩
  rw [nI_clamp (by omega), mu_ne (by omega)]
  exact hQ
/-! ===== texts worked out ===== -/
def binZ (s v w : Int32) : Int32 :=
  if s = 37 then (if w = 0 then 0 else irm v w) else if s = 38 then bi (v ≠ 0 ∧ w ≠ 0) else if s = 42 then v * w else if s = 43 then v + w else if s = 45 then v - w
  else if s = 47 then (if w = 0 then 0 else v / w) else if s = 60 then bi (v < w) else if s = 61 then bi (v = w) else if s = 62 then bi (w < v) else bi (v ≠ 0 ∨ w ≠ 0)
def sgnL : List Int32 := [37, 38, 42, 43, 45, 47, 60, 61, 62, 124]
theorem nlt_le {x y : Int32} : ¬ x ≤ y ↔ y < x := by
  rw [i_le, i_lt]
  omega
theorem nle_lt {x y : Int32} : ¬ x < y ↔ y ≤ x := by
  rw [i_le, i_lt]
  omega
theorem e_workedOut (s v w : Int32) (M : Mem) (Q : Int32 → Mem → Prop) : wp_X10_workedOut s v w M Q = Q (binZ s v w) M := by
  unfold wp_X10_workedOut binZ
  by_cases h1 : s = 37
  · subst h1
    by_cases hw : w = 0 <;> simp [hw]
  by_cases h2 : s = 38
  · subst h2
    by_cases hv : v = 0 <;> by_cases hw : w = 0 <;> simp [hv, hw, bi]
  by_cases h3 : s = 42
  · subst h3; simp
  by_cases h4 : s = 43
  · subst h4; simp
  by_cases h5 : s = 45
  · subst h5; simp
  by_cases h6 : s = 47
  · subst h6
    by_cases hw : w = 0 <;> simp [hw]
  by_cases h7 : s = 60
  · subst h7
    by_cases hv : v < w
    · have : ¬ w ≤ v := by rw [nlt_le]; exact hv
      simp [hv, this, bi]
    · have : w ≤ v := nle_lt.mp hv
      simp [hv, this, bi]
  by_cases h8 : s = 61
  · subst h8
    by_cases hv : v = w <;> simp [hv, bi]
  by_cases h9 : s = 62
  · subst h9
    by_cases hv : w < v
    · have : ¬ v ≤ w := by rw [nlt_le]; exact hv
      simp [hv, this, bi]
    · have : v ≤ w := nle_lt.mp hv
      simp [hv, this, bi]
  by_cases hv : v = 0 <;> by_cases hw : w = 0 <;> simp [h1, h2, h3, h4, h5, h6, h7, h8, h9, hv, hw, bi]
theorem e_join {s : Int32} (hs : s ∈ sgnL) (v w : Int32) (M : Mem) (Q : Int32 → Mem → Prop) : wp_X0_join s v w M Q = Q (binZ s v w) M := by
  unfold wp_X0_join binZ
  simp only [sgnL, List.mem_cons, List.not_mem_nil, or_false] at hs
  rcases hs with rfl | rfl | rfl | rfl | rfl | rfl | rfl | rfl | rfl | rfl
  · by_cases hw : w = 0 <;> simp [hw]
  · by_cases hv : v = 0 <;> by_cases hw : w = 0 <;> simp [hv, hw, bi]
  · simp
  · simp
  · simp
  · by_cases hw : w = 0 <;> simp [hw]
  · by_cases hv : v < w
    · have : ¬ w ≤ v := by rw [nlt_le]; exact hv
      simp [hv, this, bi]
    · have : w ≤ v := nle_lt.mp hv
      simp [hv, this, bi]
  · by_cases hv : v = w <;> simp [hv, bi]
  · by_cases hv : w < v
    · have : ¬ v ≤ w := by rw [nlt_le]; exact hv
      simp [hv, this, bi]
    · have : v ≤ w := nle_lt.mp hv
      simp [hv, this, bi]
  · by_cases hv : v = 0 <;> by_cases hw : w = 0 <;> simp [hv, hw, bi]
def stepZ (a b c x : Int32) (st : List Int32) : List Int32 :=
  if x < 10000 then x :: st
  else if x < 20000 then (if x = 10000 then a else if x = 10001 then b else c) :: st
  else if x = 20033 then (match st with | v :: t => bi (v = 0) :: t | [] => [])
  else match st with | w :: v :: t => binZ (x - 20000) v w :: t | l => l
def stkZ (g : Nat → Int32) (a b c : Int32) : Nat → List Int32
  | 0 => []
  | j + 1 => stepZ a b c (g j) (stkZ g a b c j)
def depZ (g : Nat → Int32) : Nat → Nat
  | 0 => 0
  | j + 1 => if g j < 20000 then depZ g j + 1 else if g j = 20033 then depZ g j else depZ g j - 1
def okT (x : Int32) (d : Nat) : Prop := (0 ≤ x ∧ x < 10003) ∨ (x = 20033 ∧ 1 ≤ d) ∨ (x - 20000 ∈ sgnL ∧ 2 ≤ d)
def wfZ (g : Nat → Int32) (n : Nat) : Prop := (∀ j, j < n → okT (g j) (depZ g j)) ∧ depZ g n = 1
def evalZ (g : Nat → Int32) (a b c : Int32) (n : Nat) : Int32 := (stkZ g a b c n).headD 0
theorem sgn_all : ∀ s ∈ sgnL, ¬ s + 20000 < 20000 ∧ ¬ s + 20000 < 10000 ∧ ¬ s + 20000 = 20033 := by decide
theorem sgn_of {x : Int32} (h : x - 20000 ∈ sgnL) : ¬ x < 20000 ∧ ¬ x < 10000 ∧ ¬ x = 20033 := by
  have h1 := sgn_all _ h
  rwa [Int32.sub_add_cancel] at h1
theorem dep_le (g : Nat → Int32) : ∀ j, depZ g j ≤ j
  | 0 => Nat.le_refl 0
  | j + 1 => by
    have := dep_le g j
    unfold depZ
    split
    · omega
    · split <;> omega
theorem stk_len {g : Nat → Int32} {n : Nat} (a b c : Int32) (h : ∀ j, j < n → okT (g j) (depZ g j)) : ∀ j, j ≤ n → (stkZ g a b c j).length = depZ g j
  | 0, _ => rfl
  | j + 1, hj => by
    have ih := stk_len a b c h j (by omega)
    have ho := h j (by omega)
    unfold stkZ depZ stepZ
    rcases ho with ⟨h1, h2⟩ | ⟨h1, h2⟩ | ⟨h1, h2⟩
    · have h3 : g j < 20000 := by rw [i_lt] at h2 ⊢; exact Int.lt_trans h2 (by decide)
      by_cases h4 : g j < 10000
      · rw [if_pos h4, if_pos h3, List.length_cons, ih]
      · rw [if_neg h4, if_pos h3, if_pos h3, List.length_cons, ih]
    · rw [h1, if_neg (by decide), if_neg (by decide), if_pos rfl, if_neg (by decide), if_pos rfl]
      cases hst : stkZ g a b c j with
      | nil => rw [hst] at ih; simp at ih; omega
      | cons v t => rw [hst] at ih; simpa using ih
    · obtain ⟨q1, q2, q3⟩ := sgn_of h1
      rw [if_neg q2, if_neg q1, if_neg q3, if_neg q1, if_neg q3]
      cases hst : stkZ g a b c j with
      | nil => rw [hst] at ih; simp at ih; omega
      | cons w t =>
        cases t with
        | nil => rw [hst] at ih; simp at ih; omega
        | cons v t => rw [hst] at ih; simp at ih ⊢; omega
/-- what the class holds of a step -/
theorem enc_num {x : Int32} (h0 : 0 ≤ x) (h : x < 10000) : enc x = x ∧ ¬ enc x < 0 := by
  have : enc x = x := by unfold enc; rw [if_pos h]
  rw [this]
  exact ⟨rfl, nle_lt.mpr h0⟩
theorem enc_name {x : Int32} (h1 : ¬ x < 10000) (h2 : x < 10003) : (x = 10000 ∧ enc x = -1) ∨ (x = 10001 ∧ enc x = -2) ∨ (x = 10002 ∧ enc x = -3) := by
  have h3 : x.toInt = 10000 ∨ x.toInt = 10001 ∨ x.toInt = 10002 := by
    have a := i_lt.mp h2
    have b := i_le.mp (nle_lt.mp h1)
    have c : (10003 : Int32).toInt = 10003 := by decide
    have d : (10000 : Int32).toInt = 10000 := by decide
    omega
  rcases h3 with h | h | h
  · have e : x = 10000 := i_eq.mpr (h.trans (by decide))
    subst e; exact Or.inl ⟨rfl, by decide⟩
  · have e : x = 10001 := i_eq.mpr (h.trans (by decide))
    subst e; exact Or.inr (Or.inl ⟨rfl, by decide⟩)
  · have e : x = 10002 := i_eq.mpr (h.trans (by decide))
    subst e; exact Or.inr (Or.inr ⟨rfl, by decide⟩)
theorem enc_sgn_all : ∀ s ∈ sgnL, enc (s + 20000) = -s ∧ enc (s + 20000) < 0 ∧ enc (s + 20000) < -3 ∧ ¬ enc (s + 20000) = -33 ∧ -enc (s + 20000) = s := by decide
theorem enc_sgn {x : Int32} (h : x - 20000 ∈ sgnL) : enc x < 0 ∧ enc x < -3 ∧ ¬ enc x = -33 ∧ -enc x = x - 20000 := by
  have h1 := enc_sgn_all _ h
  rw [Int32.sub_add_cancel] at h1
  exact h1.2
def scrL (q : Nat) : Nat → Prop := fun b => b = q + 3 ∨ b = q + 3 + 1
/-- the class: a text worked out -/
theorem sp_workOut {q n : Nat} {g : Nat → Int32} {a b c : Int32} {M : Mem} {Q : Int32 → Mem → Prop} (k : kdT q = 0) (hn : n ≤ 50) (hc : RR M (q + 1) (nI n) (fun j => enc (g j))) (hw : wfZ g n)
    (hQ : ∀ M', only (scrL q) M M' → Q (evalZ g a b c n) M') : wp_X0_workOut q a b c M Q := by
  have kc := ks0_1 k
  have ko := ks0_2 k
  obtain ⟨l1, l2⟩ := ln_law k
  unfold wp_X0_workOut
  refine ⟨k, sp_clear ko ?_⟩
  have key : ∀ (m i : Nat) (M1 : Mem), i + m = n → only (scrL q) M M1 → M1 (q + 3) 1 = nI (depZ g i) → SK M1 (q + 3 + 1) (stkZ g a b c i) → l_X0_workOut_10 q Q a b c (m + 1) (nI i) M1 := by
    intro m
    induction m with
    | zero =>
      intro i M1 hi ho hd hs
      have hin : i = n := by omega
      subst hin
      show B_X0_workOut_10 q Q a b c _ _ _
      unfold B_X0_workOut_10
      have e1 : M1 (q + 1) 1 = nI i := by rw [ho (q + 1) (by unfold scrL; omega)]; exact hc.1
      rw [e1]
      refine br_t (nI_le (Nat.le_refl _) (by omega)) ?_
      rw [hw.2] at hd
      have hlen := stk_len a b c hw.1 i (Nat.le_refl _)
      rw [hw.2] at hlen
      obtain ⟨v, hv⟩ : ∃ v, stkZ g a b c i = [v] := List.length_eq_one_iff.mp hlen
      rw [hv] at hs
      refine sp_takeLast (n := 0) ko hd (by omega) (by omega) ?_
      rw [hs.first]
      have : v = evalZ g a b c i := by unfold evalZ; rw [hv]; rfl
      rw [this]
      exact hQ _ (ho.tr (only.mu (Or.inl rfl)))
    | succ m ih =>
      intro i M1 hi ho hd hs
      show B_X0_workOut_10 q Q a b c _ _ _
      unfold B_X0_workOut_10
      have e1 : M1 (q + 1) 1 = nI n := by rw [ho (q + 1) (by unfold scrL; omega)]; exact hc.1
      have e2 : M1 (q + 1 + 1) i = enc (g i) := by rw [ho (q + 1 + 1) (by unfold scrL; omega)]; exact hc.2 i (by rw [tn, nI_clamp (by omega)]; omega)
      rw [e1]
      refine br_f (nI_ge (by omega) (by omega)) ?_
      refine sp_get (n := n) kc e1 (by omega) (by omega) (by omega) ?_
      rw [e2]
      have hok := hw.1 i (by omega)
      have hlen := stk_len a b c hw.1 i (by omega)
      have hdl := dep_le g i
      -- behind a push
      have push : ∀ v : Int32, stkZ g a b c (i + 1) = v :: stkZ g a b c i → depZ g (i + 1) = depZ g i + 1 → b_X0_workOut_84 q Q (l_X0_workOut_10 q Q a b c (m + 1)) a b c (nI i) (q + 3) v M1 := by
        intro v h1 h2
        unfold b_X0_workOut_84
        refine sp_append (n := depZ g i) ko hd (by omega) (by omega) ?_
        unfold b_X0_workOut_160
        intro x ex
        rw [nI_1] at ex
        subst ex
        refine ih (i + 1) _ (by omega) ((ho.tr (only.mu (Or.inr rfl))).tr (only.mu (Or.inl rfl))) (by rw [mu_hit, h2]) ?_
        rw [h1]
        refine SK.kept ?_ (mu_ne (by omega))
        rw [← hlen]
        exact hs.push
      rcases hok with ⟨h0, h1⟩ | ⟨h1, h2⟩ | ⟨h1, h2⟩
      · have h3 : g i < 20000 := by rw [i_lt] at h1 ⊢; exact Int.lt_trans h1 (by decide)
        by_cases h4 : g i < 10000
        · obtain ⟨e, ne⟩ := enc_num h0 h4
          refine ⟨fun z => absurd z ne, fun _ => ?_⟩
          rw [e]
          exact push (g i) (by simp only [stkZ, stepZ, if_pos h4]) (by simp only [depZ, if_pos h3])
        · have hd2 : depZ g (i + 1) = depZ g i + 1 := by simp only [depZ, if_pos h3]
          rcases enc_name h4 h1 with ⟨e, en⟩ | ⟨e, en⟩ | ⟨e, en⟩ <;> rw [en]
          · exact br_t (by decide) (br_f (by decide) ⟨fun z => absurd rfl z, fun _ => push a (by simp only [stkZ, stepZ, e]; rfl) hd2⟩)
          · exact br_t (by decide) (br_f (by decide) ⟨fun _ => ⟨fun z => absurd rfl z, fun _ => push b (by simp only [stkZ, stepZ, e]; rfl) hd2⟩, fun z => absurd z (by decide)⟩)
          · exact br_t (by decide) (br_f (by decide) ⟨fun _ => ⟨fun _ => push c (by simp only [stkZ, stepZ, e]; rfl) hd2, fun z => absurd z (by decide)⟩, fun z => absurd z (by decide)⟩)
      · rw [h1, show enc 20033 = -33 from by decide]
        refine br_t (by decide) (br_t (by decide) ⟨fun z => absurd rfl z, fun _ => ?_⟩)
        cases hst : stkZ g a b c i with
        | nil => rw [hst] at hlen; simp at hlen; omega
        | cons v t =>
          rw [hst] at hlen hs
          simp only [List.length_cons] at hlen
          rw [← hlen] at hd
          have hd2 : depZ g (i + 1) = t.length + 1 := by unfold depZ; rw [h1, if_neg (by decide), if_pos rfl, hlen]
          have hs2 : stkZ g a b c (i + 1) = bi (v = 0) :: t := by simp only [stkZ, stepZ, h1, hst]; rfl
          refine sp_takeLast (n := t.length) ko hd (by omega) (by omega) ?_
          rw [hs.top]
          have fin : ∀ w : Int32, w = bi (v = 0) → b_X0_workOut_117 q Q (l_X0_workOut_10 q Q a b c (m + 1)) a b c (nI i) (q + 3) w (mu M1 (q + 3) 1 (nI t.length)) := by
            intro w ew
            unfold b_X0_workOut_117
            refine sp_append (n := t.length) ko mu_hit (by omega) (by omega) ?_
            unfold b_X0_workOut_160
            intro x ex
            rw [nI_1] at ex
            subst ex
            refine ih (i + 1) _ (by omega) (((ho.tr (only.mu (Or.inl rfl))).tr (only.mu (Or.inr rfl))).tr (only.mu (Or.inl rfl))) (by rw [mu_hit, hd2]) ?_
            rw [hs2, ← ew]
            refine SK.kept ?_ (mu_ne (by omega))
            exact (hs.pop.kept (mu_ne (by omega))).push
          exact ⟨fun z => fin 0 (bi_f z).symm, fun z => fin 1 (bi_t z).symm⟩
      · obtain ⟨q1, q2, q3⟩ := sgn_of h1
        obtain ⟨p1, p2, p3, p4⟩ := enc_sgn h1
        refine br_t p1 (br_t p2 ⟨fun _ => ?_, fun z => absurd z p3⟩)
        cases hst : stkZ g a b c i with
        | nil => rw [hst] at hlen; simp at hlen; omega
        | cons w t =>
          cases t with
          | nil => rw [hst] at hlen; simp at hlen; omega
          | cons v t =>
            rw [hst] at hlen hs
            simp only [List.length_cons] at hlen
            rw [← hlen] at hd
            have hd2 : depZ g (i + 1) = t.length + 1 := by simp only [depZ]; rw [if_neg q1, if_neg q3]; omega
            have hs2 : stkZ g a b c (i + 1) = binZ (g i - 20000) v w :: t := by simp only [stkZ, stepZ, hst]; rw [if_neg q2, if_neg q1, if_neg q3]
            refine sp_takeLast (n := t.length + 1) ko hd (by omega) (by omega) ?_
            rw [show M1 (q + 3 + 1) (t.length + 1) = w from hs.top]
            refine sp_takeLast (n := t.length) ko mu_hit (by omega) (by omega) ?_
            rw [mu_ne (show q + 3 + 1 ≠ q + 3 by omega), show M1 (q + 3 + 1) t.length = v from hs.pop.top, p4, e_join h1]
            refine sp_append (n := t.length) ko mu_hit (by omega) (by omega) ?_
            unfold b_X0_workOut_160
            intro x ex
            rw [nI_1] at ex
            subst ex
            refine ih (i + 1) _ (by omega) ((((ho.tr (only.mu (Or.inl rfl))).tr (only.mu (Or.inl rfl))).tr (only.mu (Or.inr rfl))).tr (only.mu (Or.inl rfl))) (by rw [mu_hit, hd2]) ?_
            rw [hs2]
            refine SK.kept ?_ (mu_ne (by omega))
            exact ((hs.pop.pop.kept (mu_ne (by omega))).kept (mu_ne (by omega))).push
  refine ⟨n + 1, key n 0 _ (by omega) (only.mu (Or.inl rfl)) ?_ ?_⟩
  · rw [mu_hit]; rfl
  · intro i hi
    simp [stkZ] at hi
