/-! ===== laws: what a text gives, held ===== -/
def heldZ (v lo hi : Int32) : Int32 := if v < lo then lo else if hi < v then hi else v
theorem e_held (v lo hi : Int32) (M : Mem) (Q : Int32 → Mem → Prop) : wp_X10_held v lo hi M Q = Q (heldZ v lo hi) M := by
  unfold wp_X10_held heldZ
  by_cases h1 : v < lo
  · have : ¬ lo ≤ v := nlt_le.mpr h1
    simp [h1, this]
  · have a1 : lo ≤ v := nle_lt.mp h1
    by_cases h2 : hi < v
    · have : ¬ v ≤ hi := nlt_le.mpr h2
      simp [h1, a1, h2, this]
    · have : v ≤ hi := nle_lt.mp h2
      simp [h1, a1, h2, this]
theorem held_mm {v hi : Int32} (h : 0 ≤ hi) : imx 0 (imn hi v) = heldZ v 0 hi := by
  unfold imx imn heldZ
  have h0 := i_le.mp h
  have z : (0 : Int32).toInt = 0 := by decide
  by_cases h1 : v < hi
  · rw [if_pos h1]
    by_cases h2 : v < 0
    · rw [if_pos h2, if_neg]
      rw [i_lt] at h2 ⊢; omega
    · rw [if_neg h2]
      have h3 : ¬ hi < v := by rw [i_lt] at h1 ⊢; omega
      rw [if_neg h3]
      by_cases h4 : (0 : Int32) < v
      · rw [if_pos h4]
      · rw [if_neg h4]
        rw [i_eq]; rw [i_lt] at h2 h4; omega
  · rw [if_neg h1]
    have h2 : ¬ v < 0 := by rw [i_lt] at h1 ⊢; omega
    rw [if_neg h2]
    by_cases h3 : hi < v
    · rw [if_pos h3]
      by_cases h4 : (0 : Int32) < hi
      · rw [if_pos h4]
      · rw [if_neg h4, i_eq]; rw [i_lt] at h4; omega
    · rw [if_neg h3]
      have h5 : hi = v := by rw [i_eq]; rw [i_lt] at h1 h3; omega
      rw [h5]
      by_cases h4 : (0 : Int32) < v
      · rw [if_pos h4]
      · rw [if_neg h4, i_eq]; rw [i_lt] at h4; rw [h5] at h0; omega
def lawZ (mst sz : Int32) (g : Nat → Int32) (a b c : Int32) : Int32 := if sz < 0 then 1 else heldZ (evalZ g a b c (tn sz)) 0 mst
def codeOK (sz : Int32) (g : Nat → Int32) : Prop := sz = -1 ∨ ∃ n, 1 ≤ n ∧ n ≤ 50 ∧ sz = nI n ∧ wfZ g n
theorem sp_gives {q : Nat} {mst sz a b c : Int32} {g : Nat → Int32} {M : Mem} {Q : Int32 → Mem → Prop} (k : kdT q = 0) (hL : LR M q mst sz g) (hc : codeOK sz g) (hm : 0 ≤ mst)
    (hQ : ∀ M', only (scrL q) M M' → Q (lawZ mst sz g a b c) M') : wp_X0_gives q a b c M Q := by
  unfold wp_X0_gives
  refine ⟨k, ?_⟩
  obtain ⟨h1, h2⟩ := hL
  rcases hc with rfl | ⟨n, n1, n2, rfl, hw⟩
  · rw [if_pos (by decide)] at h2
    have e : M (q + 1) 1 = 0 := h2.1
    refine ⟨fun z => absurd e z, fun _ => ?_⟩
    have h3 := hQ M only.rf
    unfold lawZ at h3
    rw [if_pos (by decide)] at h3
    exact h3
  · rw [if_neg (nI_pos (by omega))] at h2
    refine ⟨fun _ => ?_, fun z => absurd (h2.1.symm.trans z) (nI_ne0 (by omega) (by omega))⟩
    refine sp_workOut k n2 h2 hw (fun M' ho => ?_)
    rw [h1, held_mm hm]
    have h3 := hQ M' ho
    unfold lawZ at h3
    rw [if_neg (nI_pos (by omega)), tn, nI_clamp (by omega)] at h3
    exact h3
/-! the reference -/
def scrM : Nat → Prop := fun b => b = 126 ∨ b = 127
theorem nI_lit (n : Nat) : (OfNat.ofNat n : Int32) = nI n := rfl
theorem sp_walks {u n : Nat} {a b c : Int32} {g : Nat → Int32} {M : Mem} {Q : Int32 → Mem → Prop} (hu : u < 2) (hn : n ≤ 50) (hs : M 121 (6 + u) = nI n) (hg : ∀ j, j < n → M 121 (142 + 50 * u + j) = g j) (hw : wfZ g n)
    (hQ : ∀ M', only scrM M M' → Q (evalZ g a b c n) M') : wp_X10_walks 120 (nI u) a b c M Q := by
  unfold wp_X10_walks
  refine ⟨by decide, ?_⟩
  intro M1 e1 M2 e2 M3 e3 x ex
  have ex : x = nI (142 + 50 * u) := by rw [ex, show (142 : Int32) = nI 142 from rfl, show (50 : Int32) = nI 50 from rfl, pk_mul, nI_add]
  have ho3 : only scrM M M3 := by
    subst e1 e2 e3
    exact ((only.mu (Or.inr rfl)).tr (only.mu (Or.inr rfl))).tr (only.mu (Or.inr rfl))
  have hn3 : M3 127 0 = a ∧ M3 127 1 = b ∧ M3 127 2 = c := by
    subst e1 e2 e3
    exact ⟨by simp [mu], by simp [mu], by simp [mu]⟩
  subst ex
  clear e1 e2 e3
  have key : ∀ (m i : Nat) (M1 : Mem), i + m = n → only scrM M M1 → (M1 127 0 = a ∧ M1 127 1 = b ∧ M1 127 2 = c) → SK M1 126 (stkZ g a b c i) → l_X10_walks_39 120 Q (nI u) (nI (142 + 50 * u)) (m + 1) (nI (depZ g i)) (nI (142 + 50 * u + i)) M1 := by
    intro m
    induction m with
    | zero =>
      intro i M1 hi ho hnm hs1
      have hin : i = n := by omega
      subst hin
      show B_X10_walks_39 120 Q _ _ _ _ _ _
      unfold B_X10_walks_39
      rw [show (6 : Int32) + nI u = nI (6 + u) from by rw [show (6 : Int32) = nI 6 from rfl, nI_add]]
      refine ⟨vp_in_nI (by omega) (by decide), ?_⟩
      rw [nI_clamp (by omega), show M1 (120 + 1) (6 + u) = nI i from by rw [ho 121 (by unfold scrM; omega)]; exact hs, nI_add]
      refine br_t (nI_le (Nat.le_refl _) (by omega)) ?_
      have hlen := stk_len a b c hw.1 i (Nat.le_refl _)
      rw [hw.2] at hlen
      obtain ⟨v, hv⟩ : ∃ v, stkZ g a b c i = [v] := List.length_eq_one_iff.mp hlen
      rw [hv] at hs1
      rw [show M1 (120 + 6) 0 = v from hs1.first]
      have : v = evalZ g a b c i := by unfold evalZ; rw [hv]; rfl
      rw [this]
      exact hQ _ ho
    | succ m ih =>
      intro i M1 hi ho hnm hs1
      show B_X10_walks_39 120 Q _ _ _ _ _ _
      unfold B_X10_walks_39
      rw [show (6 : Int32) + nI u = nI (6 + u) from by rw [show (6 : Int32) = nI 6 from rfl, nI_add]]
      refine ⟨vp_in_nI (by omega) (by decide), ?_⟩
      rw [nI_clamp (by omega), show M1 (120 + 1) (6 + u) = nI n from by rw [ho 121 (by unfold scrM; omega)]; exact hs, nI_add]
      refine br_f (nI_ge (by omega) (by omega)) ⟨vp_in_nI (by omega) (by decide), ?_⟩
      intro y ey
      rw [nI_clamp (by omega), show M1 (120 + 1) (142 + 50 * u + i) = g i from by rw [ho 121 (by unfold scrM; omega)]; exact hg i (by omega)] at ey
      subst ey
      have hok := hw.1 i (by omega)
      have hlen := stk_len a b c hw.1 i (by omega)
      have hdl := dep_le g i
      have push : ∀ v : Int32, stkZ g a b c (i + 1) = v :: stkZ g a b c i → depZ g (i + 1) = depZ g i + 1 → b_X10_walks_103 120 Q (l_X10_walks_39 120 Q (nI u) (nI (142 + 50 * u)) (m + 1)) (nI u) (nI (142 + 50 * u)) (nI (depZ g i)) (nI (142 + 50 * u + i)) (120 + 6) (nI (depZ g i)) v M1 := by
        intro v h1 h2
        unfold b_X10_walks_103
        rw [show lnT (120 + 6) = 50 from by decide]
        refine ⟨vp_in_nI (by omega) (by decide), ?_⟩
        rw [nI_clamp (by omega)]
        intro M4 e4 x ex
        rw [nI_1] at ex
        subst ex e4
        unfold b_X10_walks_184
        intro x ex
        rw [nI_1] at ex
        subst ex
        rw [← h2]
        refine ih (i + 1) _ (by omega) (ho.tr (only.mu (Or.inl rfl))) (by rw [mu_ne (by decide)]; exact hnm) ?_
        rw [h1, ← hlen]
        exact hs1.push
      rcases hok with ⟨h0, h1⟩ | ⟨h1, h2⟩ | ⟨h1, h2⟩
      · have h3 : g i < 20000 := by rw [i_lt] at h1 ⊢; exact Int.lt_trans h1 (by decide)
        have hd2 : depZ g (i + 1) = depZ g i + 1 := by simp only [depZ, if_pos h3]
        refine br_f (nlt_le.mpr h3) ?_
        by_cases h4 : g i < 10000
        · exact br_f (nlt_le.mpr h4) (push (g i) (by simp only [stkZ, stepZ, if_pos h4]) hd2)
        · refine br_t (nle_lt.mp h4) ?_
          rcases enc_name h4 h1 with ⟨e, -⟩ | ⟨e, -⟩ | ⟨e, -⟩
          · rw [e]
            refine ⟨by unfold vp_in; decide, ?_⟩
            rw [show M1 (120 + 7) ((10000 : Int32) - 10000).toNatClampNeg = a from hnm.1]
            exact push a (by simp only [stkZ, stepZ, e]; rfl) hd2
          · rw [e]
            refine ⟨by unfold vp_in; decide, ?_⟩
            rw [show M1 (120 + 7) ((10001 : Int32) - 10000).toNatClampNeg = b from hnm.2.1]
            exact push b (by simp only [stkZ, stepZ, e]; rfl) hd2
          · rw [e]
            refine ⟨by unfold vp_in; decide, ?_⟩
            rw [show M1 (120 + 7) ((10002 : Int32) - 10000).toNatClampNeg = c from hnm.2.2]
            exact push c (by simp only [stkZ, stepZ, e]; rfl) hd2
      · rw [h1]
        refine br_t (by decide) ⟨fun z => absurd rfl z, fun _ => ?_⟩
        cases hst : stkZ g a b c i with
        | nil => rw [hst] at hlen; simp at hlen; omega
        | cons v t =>
          rw [hst] at hlen hs1
          simp only [List.length_cons] at hlen
          rw [← hlen, nI_pred]
          have hd2 : depZ g (i + 1) = t.length + 1 := by unfold depZ; rw [h1, if_neg (by decide), if_pos rfl, hlen]
          have hs2 : stkZ g a b c (i + 1) = bi (v = 0) :: t := by simp only [stkZ, stepZ, h1, hst]; rfl
          refine ⟨vp_in_nI (by omega) (by decide), ?_⟩
          rw [nI_clamp (by omega), show M1 (120 + 6) t.length = v from hs1.top]
          have fin : ∀ w : Int32, w = bi (v = 0) → b_X10_walks_143 120 Q (l_X10_walks_39 120 Q (nI u) (nI (142 + 50 * u)) (m + 1)) (nI u) (nI (142 + 50 * u)) (nI (t.length + 1)) (nI (142 + 50 * u + i)) (120 + 6) (nI t.length) w M1 := by
            intro w ew
            unfold b_X10_walks_143
            rw [show lnT (120 + 6) = 50 from by decide]
            refine ⟨vp_in_nI (by omega) (by decide), ?_⟩
            rw [nI_clamp (by omega)]
            intro M4 e4
            subst e4
            unfold b_X10_walks_184
            intro x ex
            rw [nI_1] at ex
            subst ex
            rw [← hd2]
            refine ih (i + 1) _ (by omega) (ho.tr (only.mu (Or.inl rfl))) (by rw [mu_ne (by decide)]; exact hnm) ?_
            rw [hs2, ← ew]
            exact hs1.pop.push
          exact ⟨fun z => fin 0 (bi_f z).symm, fun z => fin 1 (bi_t z).symm⟩
      · obtain ⟨q1, q2, q3⟩ := sgn_of h1
        refine br_t (nle_lt.mp q1) ⟨fun _ => ?_, fun z => absurd z q3⟩
        cases hst : stkZ g a b c i with
        | nil => rw [hst] at hlen; simp at hlen; omega
        | cons w t =>
          cases t with
          | nil => rw [hst] at hlen; simp at hlen; omega
          | cons v t =>
            rw [hst] at hlen hs1
            simp only [List.length_cons] at hlen
            have hd2 : depZ g (i + 1) = t.length + 1 := by simp only [depZ]; rw [if_neg q1, if_neg q3]; omega
            have hs2 : stkZ g a b c (i + 1) = binZ (g i - 20000) v w :: t := by simp only [stkZ, stepZ, hst]; rw [if_neg q2, if_neg q1, if_neg q3]
            intro x ex
            rw [← hlen, pk_m1] at ex
            subst ex
            rw [nI_pred]
            refine ⟨vp_in_nI (by omega) (by decide), vp_in_nI (by omega) (by decide), ?_⟩
            rw [nI_clamp (by omega), nI_clamp (by omega), show M1 (120 + 6) (t.length + 1) = w from hs1.top, show M1 (120 + 6) t.length = v from hs1.pop.top, e_workedOut]
            refine ⟨vp_in_nI (by omega) (by decide), ?_⟩
            intro M4 e4
            subst e4
            unfold b_X10_walks_184
            intro x ex
            rw [nI_1] at ex
            subst ex
            rw [← hd2]
            refine ih (i + 1) _ (by omega) (ho.tr (only.mu (Or.inl rfl))) (by rw [mu_ne (by decide)]; exact hnm) ?_
            rw [hs2]
            exact hs1.pop.pop.push
  refine ⟨n + 1, ?_⟩
  have h := key n 0 M3 (by omega) ho3 hn3 (fun i hi => by simp [stkZ] at hi)
  exact h
theorem sp_mLaw {u : Nat} {mst a b c : Int32} {g : Nat → Int32} {M : Mem} {Q : Int32 → Mem → Prop} (hu : u < 2) (hm : mst = if u = 0 then 99 else 1) (hg : ∀ j, j < 50 → M 121 (142 + 50 * u + j) = g j) (hc : codeOK (M 121 (6 + u)) g)
    (hQ : ∀ M', only scrM M M' → Q (lawZ mst (M 121 (6 + u)) g a b c) M') : wp_X10_lawOf 120 (nI u) a b c M Q := by
  have fin : b_X10_lawOf_10 120 Q (nI u) a b c mst M := by
    unfold b_X10_lawOf_10
    rw [show (6 : Int32) + nI u = nI (6 + u) from by rw [show (6 : Int32) = nI 6 from rfl, nI_add]]
    refine ⟨vp_in_nI (by omega) (by decide), ?_⟩
    rw [nI_clamp (by omega)]
    rcases hc with h | ⟨n, n1, n2, h, hw⟩
    · rw [show M (120 + 1) (6 + u) = -1 from h]
      refine br_t (by decide) ?_
      have h3 := hQ M only.rf
      rw [h] at h3
      unfold lawZ at h3
      rw [if_pos (by decide)] at h3
      exact h3
    · rw [show M (120 + 1) (6 + u) = nI n from h]
      refine br_f (nI_pos (by omega)) ?_
      refine sp_walks hu n2 h (fun j hj => hg j (by omega)) hw (fun M' ho => ?_)
      rw [e_held]
      have h3 := hQ M' ho
      rw [h] at h3
      unfold lawZ at h3
      rw [if_neg (nI_pos (by omega)), tn, nI_clamp (by omega)] at h3
      exact h3
  unfold wp_X10_lawOf
  refine ⟨by decide, ?_⟩
  by_cases h0 : u = 0
  · subst h0
    rw [if_pos rfl] at hm
    subst hm
    exact ⟨fun z => absurd nI_0 z, fun _ => fin⟩
  · have : u = 1 := by omega
    subst this
    rw [if_neg (by decide)] at hm
    subst hm
    exact ⟨fun _ => fin, fun z => absurd z (by decide)⟩
