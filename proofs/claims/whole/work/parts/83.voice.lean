def TM (M : Mem) (l : List Int32) : Prop := M 120 21 = nI l.length ∧ ∀ j, j < l.length → M 133 j = l.getD j 0
def OM (M M' : Mem) : Prop := (∀ b, b ≠ 120 → b ≠ 133 → M' b = M b) ∧ ∀ j, j ≠ 21 → M' 120 j = M 120 j
theorem OM.rf {M : Mem} : OM M M := ⟨fun _ _ _ => rfl, fun _ _ => rfl⟩
theorem OM.tr {M M1 M2 : Mem} (h1 : OM M M1) (h2 : OM M1 M2) : OM M M2 := ⟨fun b x y => (h2.1 b x y).trans (h1.1 b x y), fun j x => (h2.2 j x).trans (h1.2 j x)⟩
def MV (vk : Nat) (n m : Int32) (M : Mem) : Prop := M 120 22 = nI vk ∧ M 120 23 = n ∧ M 120 24 = m
theorem MV.kept {vk : Nat} {n m : Int32} {M M' : Mem} (h : MV vk n m M) (o : OM M M') : MV vk n m M' := ⟨(o.2 22 (by decide)).trans h.1, (o.2 23 (by decide)).trans h.2.1, (o.2 24 (by decide)).trans h.2.2⟩
theorem mRan {b : Int32} {l : List Int32} {M : Mem} {Q : Mem → Prop} (hT : TM M l) (hl : l.length < 40) (hQ : ∀ M', TM M' (l ++ [b]) → OM M M' → Q M') : wp_X10_ran 120 b M Q := by
  unfold wp_X10_ran
  refine ⟨by decide, ?_⟩
  rw [hT.1]
  refine br_f (nI_ge (a := l.length) (b := 40) hl (by decide)) ⟨vp_in_nI hl (by decide), ?_⟩
  rw [nI_clamp (by omega)]
  intro M1 e1 M2 e2
  have e11 : M1 120 21 = nI l.length := by rw [e1, mu_ne (by decide)]; exact hT.1
  rw [e11, nI_1] at e2
  refine hQ M2 ⟨by rw [e2, mu_hit]; simp, fun j hj => ?_⟩ ⟨fun b x y => by rw [e2, mu_ne x, e1, mu_ne y], fun j x => by rw [e2, mu_off x, e1, mu_ne (by decide)]⟩
  simp only [List.length_append, List.length_cons, List.length_nil] at hj
  rw [e2, mu_ne (by decide), e1]
  by_cases q : j = l.length
  · subst q; rw [app_at]; exact mu_hit
  · rw [app_lt (by omega), ← hT.2 j (by omega)]; exact mu_off q
theorem eB (d : Nat) : wp_X10_bleatsIn (d + 1) = wb_X10_bleatsIn (wp_X10_bleatsIn d) := rfl
theorem eH (d : Nat) : wp_X10_shiversIn (d + 1) = wb_X10_shiversIn (wp_X10_shiversIn d) := rfl
theorem eI (d : Nat) : wp_X10_waitsIn (d + 1) = wb_X10_waitsIn (wp_X10_waitsIn d) := rfl
theorem eE (d : Nat) : wp_X10_tellsIn (d + 1) = wb_X10_tellsIn (wp_X10_tellsIn d) := rfl
theorem nIne {k j : Nat} (h : k ≠ j) (hk : k ≤ 6) (hj : j ≤ 6) : ¬ nI k = nI j := fun z => h ((nI_eq (by omega) (by omega)).mp z)
theorem abv_bl : ∀ k, k ≤ 6 → k ≠ 0 → k ≠ 1 → (abvN k = 1 ∨ abvN k = 4 ↔ k = 1 ∨ k = 4) ∧ abvN k < k := by decide
theorem mBl {vk : Nat} {n m x : Int32} : ∀ (k d : Nat) {l : List Int32} {M : Mem} {Q : Int32 → Mem → Prop}, k ≤ 6 → MV vk n m M → TM M l → l.length + k ≤ 39 → (∀ M', TM M' (l ++ blT k) → OM M M' → Q (blV n k x) M') → wp_X10_bleatsIn (d + k + 1) 120 (nI k) x M Q := by
  intro k
  induction k using Nat.strongRecOn with
  | ind k ih =>
    intro d l M Q hk hc hT hl hQ
    rw [eB]
    unfold wb_X10_bleatsIn
    refine ⟨by decide, ?_⟩
    by_cases k0 : k = 0
    · subst k0
      refine ⟨fun z => absurd rfl z, fun _ => mRan hT (by omega) (fun M1 t1 o1 => ?_)⟩
      rw [(hc.kept o1).2.1]
      exact hQ M1 t1 o1
    · refine ⟨fun _ => ?_, fun z => absurd z (nIne (j := 0) k0 hk (by omega))⟩
      by_cases k1 : k = 1
      · subst k1
        refine ⟨fun z => absurd rfl z, fun _ => mRan hT (by omega) (fun M1 t1 o1 => ?_)⟩
        refine ih 0 (by omega) d (by omega) (hc.kept o1) t1 (by simp; omega) (fun M2 t2 o2 => hQ M2 ?_ (o1.tr o2))
        have t2 : TM M2 (l ++ [20] ++ [10]) := t2
        rw [ap3] at t2
        exact t2
      · refine ⟨fun _ => sp_above hk (fun z => absurd z k0) (fun _ => ?_), fun z => absurd z (nIne (j := 1) k1 hk (by omega))⟩
        obtain ⟨a1, a2⟩ := abv_bl k hk k0 k1
        have e1 : blT (abvN k) = blT k := by unfold blT; simp only [a1]
        have e2 : blV n (abvN k) x = blV n k x := by unfold blV; simp only [a1]
        have := ih (abvN k) a2 (d + k - abvN k - 1) (l := l) (M := M) (Q := Q) (by omega) hc hT (by omega) (fun M1 t1 o1 => by rw [e2]; exact hQ M1 (by rw [← e1]; exact t1) o1)
        rw [show d + k - abvN k - 1 + abvN k + 1 = d + k from by omega] at this
        exact this
theorem mBl12 {vk k : Nat} {n m x : Int32} {l : List Int32} {M : Mem} {Q : Int32 → Mem → Prop} (hk : k ≤ 6) (hc : MV vk n m M) (hT : TM M l) (hl : l.length ≤ 33) (hQ : ∀ M', TM M' (l ++ blT k) → OM M M' → Q (blV n k x) M') : wp_X10_bleatsIn 12 120 (nI k) x M Q := by
  have := mBl (x := x) k (11 - k) hk hc hT (by omega) hQ
  rw [show 11 - k + k + 1 = 12 from by omega] at this
  exact this
theorem abw_sh : ∀ k, k ≤ 6 → k = 0 ∨ k = 3 ∨ k = 6 ∨ ((abvN k ≠ 3 ∧ abvN k ≠ 6) ∧ abvN k < k) := by decide
theorem abv_sh (k : Nat) (h : k ≤ 6) (h0 : k ≠ 0) (h1 : k ≠ 3) (h2 : k ≠ 6) : (abvN k ≠ 3 ∧ abvN k ≠ 6) ∧ abvN k < k := (((abw_sh k h).resolve_left h0).resolve_left h1).resolve_left h2
theorem mSh {vk : Nat} {n m x : Int32} : ∀ (k d : Nat) {l : List Int32} {M : Mem} {Q : Int32 → Mem → Prop}, k ≤ 6 → MV vk n m M → TM M l → l.length + k ≤ 39 → (∀ M', TM M' (l ++ shT k) → OM M M' → Q (shV n m k x) M') → wp_X10_shiversIn (d + k + 1) 120 (nI k) x M Q := by
  intro k
  induction k using Nat.strongRecOn with
  | ind k ih =>
    intro d l M Q hk hc hT hl hQ
    rw [eH]
    unfold wb_X10_shiversIn
    refine ⟨by decide, ?_⟩
    by_cases k0 : k = 0
    · subst k0
      refine ⟨fun z => absurd rfl z, fun _ => mRan hT (by omega) (fun M1 t1 o1 => ?_)⟩
      rw [(hc.kept o1).2.2]
      exact hQ M1 t1 o1
    · refine ⟨fun _ => ?_, fun z => absurd z (nIne (j := 0) k0 hk (by omega))⟩
      by_cases k3 : k = 3
      · subst k3
        refine ⟨fun z => absurd rfl z, fun _ => mRan hT (by omega) (fun M1 t1 o1 => ?_)⟩
        refine ih 0 (by omega) (d + 2) (by omega) (hc.kept o1) t1 (by simp; omega) (fun M2 t2 o2 => hQ M2 ?_ (o1.tr o2))
        have t2 : TM M2 (l ++ [40] ++ [12]) := t2
        rw [ap3] at t2
        exact t2
      · refine ⟨fun _ => ?_, fun z => absurd z (nIne (j := 3) k3 hk (by omega))⟩
        by_cases k6 : k = 6
        · subst k6
          refine ⟨fun z => absurd rfl z, fun _ => mRan hT (by omega) (fun M1 t1 o1 => ?_)⟩
          refine ih 3 (by omega) (d + 2) (by omega) (hc.kept o1) t1 (by simp; omega) (fun M2 t2 o2 => ?_)
          rw [((hc.kept o1).kept o2).2.1]
          refine hQ M2 ?_ (o1.tr o2)
          have t2 : TM M2 (l ++ [70] ++ [40, 12]) := t2
          rw [ap3] at t2
          exact t2
        · refine ⟨fun _ => sp_above hk (fun z => absurd z k0) (fun _ => ?_), fun z => absurd z (nIne (j := 6) k6 hk (by omega))⟩
          obtain ⟨⟨a1, a3⟩, a2⟩ := abv_sh k hk k0 k3 k6
          have e1 : shT (abvN k) = shT k := by unfold shT; rw [if_neg a1, if_neg a3, if_neg k3, if_neg k6]
          have e2 : shV n m (abvN k) x = shV n m k x := by unfold shV; rw [if_neg a1, if_neg a3, if_neg k3, if_neg k6]
          have := ih (abvN k) a2 (d + k - abvN k - 1) (l := l) (M := M) (Q := Q) (by omega) hc hT (by omega) (fun M1 t1 o1 => by rw [e2]; exact hQ M1 (by rw [← e1]; exact t1) o1)
          rw [show d + k - abvN k - 1 + abvN k + 1 = d + k from by omega] at this
          exact this
theorem mSh12 {vk k : Nat} {n m x : Int32} {l : List Int32} {M : Mem} {Q : Int32 → Mem → Prop} (hk : k ≤ 6) (hc : MV vk n m M) (hT : TM M l) (hl : l.length ≤ 33) (hQ : ∀ M', TM M' (l ++ shT k) → OM M M' → Q (shV n m k x) M') : wp_X10_shiversIn 12 120 (nI k) x M Q := by
  have := mSh (x := x) k (11 - k) hk hc hT (by omega) hQ
  rw [show 11 - k + k + 1 = 12 from by omega] at this
  exact this
theorem abw_wa : ∀ k, k ≤ 6 → k = 0 ∨ k = 2 ∨ k = 5 ∨ ((abvN k ≠ 2 ∧ abvN k ≠ 5) ∧ abvN k < k) := by decide
theorem abv_wa (k : Nat) (h : k ≤ 6) (h0 : k ≠ 0) (h1 : k ≠ 2) (h2 : k ≠ 5) : (abvN k ≠ 2 ∧ abvN k ≠ 5) ∧ abvN k < k := (((abw_wa k h).resolve_left h0).resolve_left h1).resolve_left h2
theorem mWa {vk : Nat} {n m : Int32} (hv : vk ≤ 6) : ∀ (k d : Nat) {x : Int32} {l : List Int32} {M : Mem} {Q : Int32 → Mem → Prop}, k ≤ 6 → MV vk n m M → TM M l → l.length + k ≤ 30 → (∀ M', TM M' (l ++ waT vk k) → OM M M' → Q (waV n m vk k x) M') → wp_X10_waitsIn (d + k + 1) 120 (nI k) x M Q := by
  have L := lens vk hv
  intro k
  induction k using Nat.strongRecOn with
  | ind k ih =>
    intro d x l M Q hk hc hT hl hQ
    rw [eI]
    unfold wb_X10_waitsIn
    refine ⟨by decide, ?_⟩
    by_cases k0 : k = 0
    · subst k0
      refine ⟨fun z => absurd rfl z, fun _ => mRan hT (by omega) (fun M1 t1 o1 => ?_)⟩
      rw [(hc.kept o1).1]
      refine mBl12 hv (hc.kept o1) t1 (by simp; omega) (fun M2 t2 o2 => hQ M2 ?_ (o1.tr o2))
      rw [ap3] at t2
      exact t2
    · refine ⟨fun _ => ?_, fun z => absurd z (nIne (j := 0) k0 hk (by omega))⟩
      by_cases k2 : k = 2
      · subst k2
        refine ⟨fun z => absurd rfl z, fun _ => mRan hT (by omega) (fun M1 t1 o1 => ?_)⟩
        refine ih 0 (by omega) (d + 1) (by omega) (hc.kept o1) t1 (by simp; omega) (fun M2 t2 o2 => ?_)
        have t2 : TM M2 (l ++ [30] ++ w0T vk) := t2
        rw [((hc.kept o1).kept o2).1]
        refine mSh12 hv ((hc.kept o1).kept o2) t2 (by simp; omega) (fun M3 t3 o3 => hQ M3 ?_ ((o1.tr o2).tr o3))
        rw [List.append_assoc, ap3] at t3
        exact t3
      · refine ⟨fun _ => ?_, fun z => absurd z (nIne (j := 2) k2 hk (by omega))⟩
        by_cases k5 : k = 5
        · subst k5
          refine ⟨fun z => absurd rfl z, fun _ => mRan hT (by omega) (fun M1 t1 o1 => ?_)⟩
          refine ih 2 (by omega) (d + 2) (by omega) (hc.kept o1) t1 (by simp; omega) (fun M2 t2 o2 => hQ M2 ?_ (o1.tr o2))
          have t2 : TM M2 (l ++ [60] ++ w2T vk) := t2
          rw [ap3] at t2
          exact t2
        · refine ⟨fun _ => sp_above hk (fun z => absurd z k0) (fun _ => ?_), fun z => absurd z (nIne (j := 5) k5 hk (by omega))⟩
          obtain ⟨⟨a1, a3⟩, a2⟩ := abv_wa k hk k0 k2 k5
          have e1 : waT vk (abvN k) = waT vk k := by unfold waT; rw [if_neg a1, if_neg a3, if_neg k2, if_neg k5]
          have e2 : waV n m vk (abvN k) x = waV n m vk k x := by unfold waV; rw [if_neg a1, if_neg a3, if_neg k2, if_neg k5]
          have := ih (abvN k) a2 (d + k - abvN k - 1) (x := x) (l := l) (M := M) (Q := Q) (by omega) hc hT (by omega) (fun M1 t1 o1 => by rw [e2]; exact hQ M1 (by rw [← e1]; exact t1) o1)
          rw [show d + k - abvN k - 1 + abvN k + 1 = d + k from by omega] at this
          exact this
theorem mWa12 {vk k : Nat} {n m x : Int32} {l : List Int32} {M : Mem} {Q : Int32 → Mem → Prop} (hv : vk ≤ 6) (hk : k ≤ 6) (hc : MV vk n m M) (hT : TM M l) (hl : l.length ≤ 24) (hQ : ∀ M', TM M' (l ++ waT vk k) → OM M M' → Q (waV n m vk k x) M') : wp_X10_waitsIn 12 120 (nI k) x M Q := by
  have := mWa hv k (11 - k) (x := x) hk hc hT (by omega) hQ
  rw [show 11 - k + k + 1 = 12 from by omega] at this
  exact this
theorem abw_te : ∀ k, k ≤ 6 → k = 0 ∨ k = 4 ∨ k = 6 ∨ ((abvN k ≠ 4 ∧ abvN k ≠ 6) ∧ abvN k < k) := by decide
theorem abv_te (k : Nat) (h : k ≤ 6) (h0 : k ≠ 0) (h1 : k ≠ 4) (h2 : k ≠ 6) : (abvN k ≠ 4 ∧ abvN k ≠ 6) ∧ abvN k < k := (((abw_te k h).resolve_left h0).resolve_left h1).resolve_left h2
theorem mTe {vk : Nat} {n m : Int32} (hv : vk ≤ 6) : ∀ (k d : Nat) {x : Int32} {l : List Int32} {M : Mem} {Q : Int32 → Mem → Prop}, k ≤ 6 → MV vk n m M → TM M l → l.length ≤ 10 → (∀ M', TM M' (l ++ teT vk k) → OM M M' → Q (teV n m vk k x) M') → wp_X10_tellsIn (d + k + 1) 120 (nI k) x M Q := by
  have L := lens vk hv
  -- a bound for what is within
  have go : ∀ (k d : Nat) {x : Int32} {l : List Int32} {M : Mem} {Q : Int32 → Mem → Prop}, k ≤ 6 → k ≠ 4 → k ≠ 6 → MV vk n m M → TM M l → l.length ≤ 20 → (∀ M', TM M' (l ++ t0T vk) → OM M M' → Q (t0V n m vk x) M') → wp_X10_tellsIn (d + k + 1) 120 (nI k) x M Q := by
    intro k
    induction k using Nat.strongRecOn with
    | ind k ih =>
      intro d x l M Q hk k4 k6 hc hT hl hQ
      rw [eE]
      unfold wb_X10_tellsIn
      refine ⟨by decide, ?_⟩
      by_cases k0 : k = 0
      · subst k0
        refine ⟨fun z => absurd rfl z, fun _ => mRan hT (by omega) (fun M1 t1 o1 => ?_)⟩
        rw [(hc.kept o1).1]
        refine mWa12 hv hv (hc.kept o1) t1 (by simp; omega) (fun M2 t2 o2 => ?_)
        rw [((hc.kept o1).kept o2).1]
        refine mSh12 hv ((hc.kept o1).kept o2) t2 (by simp; omega) (fun M3 t3 o3 => hQ M3 ?_ ((o1.tr o2).tr o3))
        rw [List.append_assoc, ap3] at t3
        exact t3
      · refine ⟨fun _ => ⟨fun _ => ⟨fun _ => sp_above hk (fun z => absurd z k0) (fun _ => ?_), fun z => absurd z (nIne (j := 6) k6 hk (by omega))⟩, fun z => absurd z (nIne (j := 4) k4 hk (by omega))⟩, fun z => absurd z (nIne (j := 0) k0 hk (by omega))⟩
        obtain ⟨⟨a1, a3⟩, a2⟩ := abv_te k hk k0 k4 k6
        have := ih (abvN k) a2 (d + k - abvN k - 1) (x := x) (l := l) (M := M) (Q := Q) (by omega) a1 a3 hc hT hl hQ
        rw [show d + k - abvN k - 1 + abvN k + 1 = d + k from by omega] at this
        exact this
  intro k d x l M Q hk hc hT hl hQ
  unfold teT teV at hQ
  by_cases k4 : k = 4
  · subst k4
    rw [if_pos rfl, if_pos rfl] at hQ
    rw [eE]
    unfold wb_X10_tellsIn
    refine ⟨by decide, fun _ => ⟨fun z => absurd rfl z, fun _ => mRan hT (by omega) (fun M1 t1 o1 => ?_)⟩, fun z => absurd z (by decide)⟩
    refine go 1 (d + 2) (by omega) (by omega) (by omega) (hc.kept o1) t1 (by simp; omega) (fun M2 t2 o2 => ?_)
    rw [((hc.kept o1).kept o2).1]
    refine mBl12 hv ((hc.kept o1).kept o2) t2 (by simp; omega) (fun M3 t3 o3 => hQ M3 ?_ ((o1.tr o2).tr o3))
    rw [List.append_assoc, ap3] at t3
    exact t3
  · rw [if_neg k4, if_neg k4] at hQ
    by_cases k6 : k = 6
    · subst k6
      rw [if_pos rfl, if_pos rfl] at hQ
      rw [eE]
      unfold wb_X10_tellsIn
      refine ⟨by decide, fun _ => ⟨fun _ => ⟨fun z => absurd rfl z, fun _ => mRan hT (by omega) (fun M1 t1 o1 => ?_)⟩, fun z => absurd z (by decide)⟩, fun z => absurd z (by decide)⟩
      rw [(hc.kept o1).1]
      refine mWa12 hv hv (hc.kept o1) t1 (by simp; omega) (fun M2 t2 o2 => ?_)
      refine go 3 (d + 2) (by omega) (by omega) (by omega) ((hc.kept o1).kept o2) t2 (by simp; omega) (fun M3 t3 o3 => hQ M3 ?_ ((o1.tr o2).tr o3))
      rw [List.append_assoc, ap3] at t3
      exact t3
    · rw [if_neg k6, if_neg k6] at hQ
      exact go k d hk k4 k6 hc hT (by omega) hQ
theorem mTe12 {vk k : Nat} {n m x : Int32} {l : List Int32} {M : Mem} {Q : Int32 → Mem → Prop} (hv : vk ≤ 6) (hk : k ≤ 6) (hc : MV vk n m M) (hT : TM M l) (hl : l.length ≤ 10) (hQ : ∀ M', TM M' (l ++ teT vk k) → OM M M' → Q (teV n m vk k x) M') : wp_X10_tellsIn 12 120 (nI k) x M Q := by
  have := mTe hv k (11 - k) (x := x) hk hc hT (by omega) hQ
  rw [show 11 - k + k + 1 = 12 from by omega] at this
  exact this
/-- another trace -/
theorem INV.trace {n : Nat} {M M1 M2 : Mem} {l : List Int32} (h : INV n M) (o1 : ∀ b, b ≠ 103 → b ≠ 104 → b ≠ 105 → M1 b = M b) (hT : TR M1 l) (o2 : ∀ b, b ≠ 120 → b ≠ 133 → M2 b = M1 b) (e120 : ∀ j, j < 21 → M2 120 j = M 120 j) (hM : TM M2 l) : INV (n + 1) M2 := by
  obtain ⟨⟨a, b, c, ⟨⟨d1, d2⟩, ⟨d3, d4⟩⟩, e, f, g⟩, hA, hz⟩ := h
  have K : ∀ b, b ≠ 120 → b ≠ 133 → b ≠ 103 → b ≠ 104 → b ≠ 105 → M2 b = M b := fun b h1 h2 h3 h4 h5 => (o2 b h1 h2).trans (o1 b h3 h4 h5)
  unfold INV z3
  rw [K 121 (by decide) (by decide) (by decide) (by decide) (by decide), K 122 (by decide) (by decide) (by decide) (by decide) (by decide), K 123 (by decide) (by decide) (by decide) (by decide) (by decide), K 124 (by decide) (by decide) (by decide) (by decide) (by decide), K 129 (by decide) (by decide) (by decide) (by decide) (by decide), K 130 (by decide) (by decide) (by decide) (by decide) (by decide), K 131 (by decide) (by decide) (by decide) (by decide) (by decide), e120 3 (by decide), e120 4 (by decide), hM.1]
  refine ⟨⟨a.kept hA.1.t (fun b h1 h2 _ => K b (by omega) (by omega) (by omega) (by omega) (by omega)), by rw [K 0 (by omega) (by omega) (by omega) (by omega) (by omega)]; exact b, fun z => (c z).kept (hA.2.2.1 z).t (fun b h1 h2 _ => K b (by omega) (by omega) (by omega) (by omega) (by omega)), ⟨⟨?_, ?_⟩, ⟨?_, ?_⟩⟩, fun k h1 h2 => ?_, fun s hs => ⟨?_, (f s hs).2.kept (K _ (by omega) (by omega) (by omega) (by omega) (by omega)) (K _ (by omega) (by omega) (by omega) (by omega) (by omega))⟩, ⟨?_, fun j hj => ?_⟩⟩, ⟨hA.1, hA.mono.2.1, hA.2.2.1, hA.2.2.2.1, ⟨l.length, hT.2.1, rfl⟩⟩, hz⟩
  · rw [K 37 (by omega) (by omega) (by omega) (by omega) (by omega)]; exact d1
  · rw [K 42 (by omega) (by omega) (by omega) (by omega) (by omega)]; exact d2
  · rw [K 70 (by omega) (by omega) (by omega) (by omega) (by omega)]; exact d3
  · rw [K 75 (by omega) (by omega) (by omega) (by omega) (by omega)]; exact d4
  · rw [K 107 (by omega) (by omega) (by omega) (by omega) (by omega)]; exact e k h1 h2
  · rw [K _ (by omega) (by omega) (by omega) (by omega) (by omega)]; exact (f s hs).1
  · rw [o2 104 (by decide) (by decide)]; exact hT.1
  · rw [tn, nI_clamp (by have := hT.2.1; omega)] at hj
    rw [o2 _ (by decide) (by decide)]
    exact (hT.2.2 j hj).trans (hM.2 j hj).symm
theorem call_voice {n : Nat} {M : Mem} (h : INV n M) (a b x : Int32) : wp_X9_voice 0 a b x M (fun r M1 => wp_X10_voice 120 a b x M1 (fun r2 M2 => r = r2 ∧ INV (n + 1) M2)) := by
  obtain ⟨ns, nk, hr, hR, hh⟩ := h.ro
  have n7 := hR.2.1.2
  have e27 : M 2 7 = nI nk := h.mr.1.2.1.trans hR.2.1.1
  have bad : ¬ (zin a 0 (nI nk - 1) ∧ zin b 0 3) → wp_X9_refuse 0 1 M (fun r M1 => wp_X10_voice 120 a b x M1 (fun r2 M2 => r = r2 ∧ INV (n + 1) M2)) := by
    intro hb
    refine sp_refuse (k := 1) (by decide) (by decide) ?_
    unfold wp_X10_voice b_X10_voice_17
    refine ⟨by decide, ?_⟩
    rw [e_mSheep, e_in, mu_ne (by decide), hR.2.1.1]
    have fe := fin_err (e := -1000000001) h (k := 1) (by decide) (by decide) rfl
    by_cases h1 : zin a 0 (nI nk - 1)
    · exact b1t h1 (b2f (fun z => hb ⟨h1, z⟩) fe)
    · exact b1f h1 fe
  unfold wp_X9_voice b_X9_voice_16
  refine ⟨by decide, ?_⟩
  rw [e_isSheep, e_isWithin, e27]
  by_cases h1 : zin a 0 (nI nk - 1)
  · refine b1t h1 ?_
    by_cases h2 : zin b 0 3
    · refine b2t h2 ?_
      obtain ⟨k, hk, rfl⟩ := (zin_cnt (by omega)).mp h1
      obtain ⟨vk, hv, ev⟩ := hR.fld (k := k) (w := 0) hk (by decide)
      have hv : vk ≤ 6 := hv
      obtain ⟨m, em⟩ : ∃ m, m = M 121 (30 + 6 * k + 1) := ⟨_, rfl⟩
      refine ⟨vp_in_nI (by omega) (by decide), ?_⟩
      rw [nI_clamp (by omega)]
      intro q eq
      have eq : q = 2 + 13 + 9 + k := by omega
      subst eq
      rw [h.mr.2.2.2.1 k (by rw [hR.tn2]; omega) 0 (by decide), h.mr.2.2.2.1 k (by rw [hR.tn2]; omega) 1 (by decide), ev, ← em]
      -- the reference
      have mdl : ∀ (M1 : Mem) (v : Int32) (l : List Int32), (∀ b, b ≠ 103 → b ≠ 104 → b ≠ 105 → M1 b = M b) → TR M1 l → (∀ (M5 : Mem), MV vk (nI k) m M5 → TM M5 [] → ∀ (Q : Int32 → Mem → Prop), (∀ M', TM M' l → OM M5 M' → Q v M') → (b = 0 → wp_X10_bleatsIn 12 120 (nI vk) x M5 Q) ∧ (b = 1 → wp_X10_waitsIn 12 120 (nI vk) x M5 Q) ∧ (b = 2 → wp_X10_shiversIn 12 120 (nI vk) x M5 Q) ∧ (¬ b = 0 → ¬ b = 1 → ¬ b = 2 → wp_X10_tellsIn 12 120 (nI vk) x M5 Q)) → wp_X10_voice 120 (nI k) b x M1 (fun r2 M2 => v = r2 ∧ INV (n + 1) M2) := by
        intro M1 v l o1 hT hq
        have e121 : M1 121 = M 121 := o1 _ (by decide) (by decide) (by decide)
        unfold wp_X10_voice
        refine ⟨by decide, ?_⟩
        rw [e_mSheep, e_in, e121, hR.2.1.1]
        refine b1t h1 (b2t h2 ?_)
        intro M2 e2
        refine sp_its (w := 0) (by omega) (by decide) ?_
        rw [show M2 121 = M 121 from by rw [e2, mu_ne (by decide)]; exact e121, ev]
        intro M3 e3 M4 e4
        refine sp_its (w := 1) (by omega) (by decide) ?_
        rw [show M4 121 = M 121 from by rw [e4, mu_ne (by decide), e3, mu_ne (by decide), e2, mu_ne (by decide)]; exact e121, ← em]
        intro M5 e5
        have mv : MV vk (nI k) m M5 := by
          refine ⟨?_, ?_, ?_⟩
          · rw [e5, mu_off (by decide), e4, mu_off (by decide), e3, mu_hit]
          · rw [e5, mu_off (by decide), e4, mu_hit]
          · rw [e5, mu_hit]
        have tm : TM M5 [] := ⟨by rw [e5, mu_off (by decide), e4, mu_off (by decide), e3, mu_off (by decide), e2, mu_hit]; rfl, fun j hj => by simp at hj⟩
        have g := hq M5 mv tm (fun r2 M2 => v = r2 ∧ INV (n + 1) M2) (fun M' t' o' => ⟨rfl, ?_⟩)
        · rw [mv.1]
          exact g
        · refine h.trace o1 hT (fun b g1 g2 => ?_) (fun j hj => ?_) t'
          · rw [o'.1 b g1 g2, e5, mu_ne g1, e4, mu_ne g1, e3, mu_ne g1, e2, mu_ne g1]
          · rw [o'.2 j (by omega), e5, mu_off (by omega), e4, mu_off (by omega), e3, mu_off (by omega), e2, mu_off (by omega), o1 120 (by decide) (by decide) (by decide)]
      unfold wp_X7_raise
      refine ⟨by decide, ?_⟩
      intro M1 e1 M2 e2 M3 e3
      refine sp_clear (h := 104) (by decide) ?_
      have hc : CV vk (nI k) m (mu M3 104 1 0) := by
        refine ⟨?_, ?_, ?_⟩
        · rw [mu_ne (by decide), e3, mu_off (by decide), e2, mu_off (by decide), e1, mu_hit]
        · rw [mu_ne (by decide), e3, mu_off (by decide), e2, mu_hit]
        · rw [mu_ne (by decide), e3, mu_hit]
      have ht : TR (mu M3 104 1 0) [] := ⟨by rw [mu_hit]; rfl, by simp, fun j hj => by simp at hj⟩
      have oo : ∀ M4, only TV (mu M3 104 1 0) M4 → ∀ b, b ≠ 103 → b ≠ 104 → b ≠ 105 → M4 b = M b := fun M4 o4 b g1 g2 g3 => by
        rw [o4 b (by unfold TV; omega), mu_ne g2, e3, mu_ne g1, e2, mu_ne g1, e1, mu_ne g1]
      obtain ⟨c, hc3, rfl⟩ := (zin_nI (n := 3) (by decide)).mp h2
      have : c = 0 ∨ c = 1 ∨ c = 2 ∨ c = 3 := by omega
      rcases this with rfl | rfl | rfl | rfl
      · refine cBl (d := 55) (op := 0) hv hc ht (by simp) (by omega) (fun M4 t4 o4 => mdl M4 _ _ (oo M4 o4) t4 (fun M5 mv tm Q hq => ⟨fun _ => mBl12 hv mv tm (by simp) hq, fun z => absurd z (by decide), fun z => absurd z (by decide), fun z => absurd rfl z⟩))
      · refine cWa (d := 43) (op := 0) hv hv hc ht (by simp) (by omega) (fun M4 t4 o4 => mdl M4 _ _ (oo M4 o4) t4 (fun M5 mv tm Q hq => ⟨fun z => absurd z (by decide), fun _ => mWa12 hv hv mv tm (by simp) hq, fun z => absurd z (by decide), fun _ z => absurd rfl z⟩))
      · refine cSh (d := 52) (op := 0) hv hc ht (by simp) (by omega) (fun M4 t4 o4 => mdl M4 _ _ (oo M4 o4) t4 (fun M5 mv tm Q hq => ⟨fun z => absurd z (by decide), fun z => absurd z (by decide), fun _ => mSh12 hv mv tm (by simp) hq, fun _ _ z => absurd rfl z⟩))
      · refine cTe (d := 37) (op := 0) hv hv hc ht (by simp) (by omega) (fun M4 t4 o4 => mdl M4 _ _ (oo M4 o4) t4 (fun M5 mv tm Q hq => ⟨fun z => absurd z (by decide), fun z => absurd z (by decide), fun z => absurd z (by decide), fun _ _ _ => mTe12 hv hv mv tm (by simp) hq⟩))
    · exact b2f h2 (bad (fun z => h2 z.2))
  · exact b1f h1 (bad (fun z => h1 z.1))
