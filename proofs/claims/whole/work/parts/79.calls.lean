theorem call_trace {n : Nat} {M : Mem} (h : INV n M) (a : Int32) : wp_X9_trace 0 a M (fun r M1 => wp_X10_trace 120 a M1 (fun r2 M2 => r = r2 ∧ INV (n + 1) M2)) := by
  obtain ⟨t, ht, et⟩ := h.2.1.2.2.2.2
  have g := h.1.2.2.2.2.2.2
  rw [et] at g
  unfold wp_X9_trace
  refine ⟨by decide, sp_holds (h := 104) (by decide) g.1 (by omega) ?_⟩
  by_cases q : zin a 0 (nI t - 1)
  · refine b1t q ?_
    obtain ⟨i, hi, rfl⟩ := (zin_cnt (by omega)).mp q
    refine sp_get (h := 104) (by decide) g.1 hi (by rw [show lnT (104 + 1) = 40 from by decide]; exact ht) (by rw [show lnT (104 + 1) = 40 from by decide]; decide) ?_
    unfold wp_X10_trace
    refine ⟨by decide, ?_⟩
    rw [e_in, et]
    refine b1t q ⟨vp_in_nI (by omega) (by decide), ?_⟩
    rw [nI_clamp (by omega)]
    exact ⟨g.2 i (by rw [tn, nI_clamp (by omega)]; exact hi), h.pure⟩
  · refine b1f q (sp_refuse (k := 2) (by decide) (by decide) ?_)
    unfold wp_X10_trace
    refine ⟨by decide, ?_⟩
    rw [e_in, show (mu M 107 2 (M 107 2 + 1)) 120 21 = nI t from by rw [mu_ne (by decide)]; exact et]
    exact b1f q (fin_err (e := -1000000002) h (k := 2) (by decide) (by decide) rfl)
/-- JUDGE -/
theorem call_judge {n : Nat} {M : Mem} (h : INV n M) (a : Int32) : wp_X9_judge 0 a M (fun r M1 => wp_X10_judge 120 a M1 (fun r2 M2 => r = r2 ∧ INV (n + 1) M2)) := by
  obtain ⟨ns, nk, hr, hR, hh⟩ := h.ro
  have n7 := hR.2.1.2
  have e27 : M (0 + 1 + 1) 7 = nI nk := h.mr.1.2.1.trans hR.2.1.1
  unfold wp_X9_judge
  refine ⟨by decide, ?_⟩
  rw [e_isSheet]
  by_cases h1 : zin a 0 3
  · refine b2t h1 ?_
    obtain ⟨s, hs, rfl⟩ := (zin_nI (n := 3) (by decide)).mp h1
    obtain ⟨k6, k3, l40⟩ := sh_kd s (by omega)
    obtain ⟨z, hz, ez, eb, es, ej, hbt⟩ := h.sh (s := s) (by omega)
    refine ⟨vp_in_nI (by omega) (by decide), ?_⟩
    rw [nI_clamp (by omega), show 0 + 106 + 2 + 3 * s = 108 + 3 * s from by omega]
    intro q eq
    have eq : q = 109 + 3 * s := by omega
    subst eq
    refine ⟨vp_in_nI (by omega) (by decide), ?_⟩
    unfold wp_X6_isMissing
    refine ⟨k6, ?_⟩
    dsimp only
    rw [eb]
    by_cases g : M 129 s = 0
    · refine ⟨fun z => absurd g z, fun _ => ⟨fun z => absurd z (by decide), fun _ => sp_refuse (k := 2) (by decide) (by decide) ?_⟩⟩
      unfold wp_X10_judge
      refine ⟨by decide, ?_⟩
      rw [e_mSheet]
      refine b2t h1 ⟨vp_in_nI (by omega) (by decide), ?_⟩
      rw [nI_clamp (by omega), show (mu M 107 2 (M 107 2 + 1)) (120 + 9) = M 129 from mu_ne (by decide)]
      exact ⟨fun z => absurd g z, fun _ => fin_err (e := -1000000002) h (k := 2) (by decide) (by decide) rfl⟩
    refine ⟨fun _ => ⟨fun _ => ?_, fun z => absurd rfl z⟩, fun z => absurd z g⟩
    obtain ⟨W, eW⟩ : ∃ W : Nat → Int32, W = fun j => M 121 (30 + 6 * j + 3) := ⟨_, rfl⟩
    obtain ⟨G, eG⟩ : ∃ G : Nat → Int32, G = fun j => M 131 (40 * s + j) := ⟨_, rfl⟩
    have wM : ∀ j, j < nk → M (2 + 13 + 9 + j) 3 = W j := fun j hj => by rw [eW]; exact h.mr.2.2.2.1 j (by rw [hR.tn2]; exact hj) 3 (by decide)
    -- the reference stops at p
    have mdl : ∀ (p : Nat) (v : Int32), p ≤ nk → p ≤ z → (∀ j, j < p → G j = W j) → (p = nk ∨ p = z ∨ ¬ G p = W p) → v = (if p = nk ∧ p = z then -1 else nI p) → wp_X10_judge 120 (nI s) M (fun r2 M2 => v = r2 ∧ INV (n + 1) M2) := by
      intro p v hp1 hp2 hlow hend hv
      have fin : b_X10_judge_78 120 (fun r2 M2 => v = r2 ∧ INV (n + 1) M2) (nI s) (nI p) M := by
        unfold b_X10_judge_78
        rw [show M (120 + 1) 2 = nI nk from hR.2.1.1, nI_clamp (by omega), show M (120 + 10) s = nI z from ez, nI_eq (by omega) (by omega), nI_eq (by omega) (by omega)]
        by_cases q1 : p = nk
        · refine ⟨fun z => absurd q1 z, fun _ => ⟨vp_in_nI (by omega) (by decide), ?_⟩⟩
          by_cases q2 : p = z
          · rw [if_pos ⟨q1, q2⟩] at hv
            exact ⟨fun z => absurd q2 z, fun _ => ⟨hv, h.pure⟩⟩
          · rw [if_neg (fun w => q2 w.2)] at hv
            exact ⟨fun _ => ⟨hv, h.pure⟩, fun z => absurd z q2⟩
        · rw [if_neg (fun w => q1 w.1)] at hv
          exact ⟨fun _ => ⟨hv, h.pure⟩, fun z => absurd z q1⟩
      have pm : ∀ (m i : Nat), i + m = p → l_X10_judge_32 120 (fun r2 M2 => v = r2 ∧ INV (n + 1) M2) (nI s) (m + 1) (nI i) M := by
        intro m
        induction m with
        | zero =>
          intro i hi
          have : i = p := by omega
          subst this
          show B_X10_judge_32 120 _ _ _ _ _
          unfold B_X10_judge_32
          rw [show M (120 + 1) 2 = nI nk from hR.2.1.1, nI_clamp (by omega), show M (120 + 10) s = nI z from ez]
          by_cases q1 : i = nk
          · exact br_t (nI_le (by omega) (by omega)) fin
          · refine br_f (nI_ge (by omega) (by omega)) ⟨vp_in_nI (by omega) (by decide), ?_⟩
            by_cases q2 : i = z
            · exact br_t (nI_le (by omega) (by omega)) fin
            · refine br_f (nI_ge (by omega) (by omega)) ?_
              rw [show (40 : Int32) = nI 40 from rfl, pk_mul, nI_add]
              refine ⟨vp_in_nI (by omega) (by decide), sp_its (w := 3) (by omega) (by decide) ?_⟩
              rw [nI_clamp (by omega)]
              have q3 : ¬ M 131 (40 * s + i) = M 121 (30 + 6 * i + 3) := by
                have := (hend.resolve_left q1).resolve_left q2
                rw [eG, eW] at this
                exact this
              exact ⟨fun _ => fin, fun z => absurd z q3⟩
        | succ m ih =>
          intro i hi
          show B_X10_judge_32 120 _ _ _ _ _
          unfold B_X10_judge_32
          rw [show M (120 + 1) 2 = nI nk from hR.2.1.1, nI_clamp (by omega), show M (120 + 10) s = nI z from ez]
          refine br_f (nI_ge (by omega) (by omega)) ⟨vp_in_nI (by omega) (by decide), br_f (nI_ge (by omega) (by omega)) ?_⟩
          rw [show (40 : Int32) = nI 40 from rfl, pk_mul, nI_add]
          refine ⟨vp_in_nI (by omega) (by decide), sp_its (w := 3) (by omega) (by decide) ?_⟩
          rw [nI_clamp (by omega)]
          have q3 : M 131 (40 * s + i) = M 121 (30 + 6 * i + 3) := by
            have := hlow i (by omega)
            rw [eG, eW] at this
            exact this
          refine ⟨fun z => absurd q3 z, fun _ => ?_⟩
          intro x ex
          rw [nI_1] at ex
          subst ex
          exact ih (i + 1) (by omega)
      unfold wp_X10_judge
      refine ⟨by decide, ?_⟩
      rw [e_mSheet]
      refine b2t h1 ⟨vp_in_nI (by omega) (by decide), ?_⟩
      rw [nI_clamp (by omega)]
      exact ⟨fun _ => ⟨p + 1, pm p 0 (by omega)⟩, fun z => absurd z g⟩
    rw [es, e27]
    intro x ex
    obtain ⟨bo, ebo, hbo⟩ : ∃ bo, x = nI bo ∧ (bo = z ∧ z ≤ nk ∨ bo = nk ∧ nk ≤ z) := by
      unfold imn at ex
      by_cases q : nI nk < nI z
      · rw [if_pos q] at ex
        refine ⟨nk, ex, Or.inr ⟨rfl, ?_⟩⟩
        exact Classical.byContradiction (fun w => nI_nlt (a := nk) (b := z) (by omega) (by omega) q)
      · rw [if_neg q] at ex
        refine ⟨z, ex, Or.inl ⟨rfl, ?_⟩⟩
        exact Classical.byContradiction (fun w => q (nI_lt (by omega) (by omega)))
    subst ebo
    have pc : ∀ (m i : Nat), i + m = bo → (∀ j, j < i → G j = W j) → l_X9_judge_62 0 (fun r M1 => wp_X10_judge 120 (nI s) M1 (fun r2 M2 => r = r2 ∧ INV (n + 1) M2)) (109 + 3 * s) (nI bo) (m + 1) (nI i) M := by
      intro m
      induction m with
      | zero =>
        intro i hi hlow
        have : i = bo := by omega
        subst this
        show B_X9_judge_62 0 _ _ _ _ _ _
        unfold B_X9_judge_62
        rw [es, e27, nI_eq (by omega) (by omega)]
        refine br_t (nI_le (Nat.le_refl _) (by omega)) ?_
        by_cases q : z = nk
        · exact ⟨fun w => absurd q w, fun _ => mdl i _ (by omega) (by omega) hlow (by omega) (by rw [if_pos (by omega)])⟩
        · exact ⟨fun _ => mdl i _ (by omega) (by omega) hlow (by omega) (by rw [if_neg (by omega)]), fun w => absurd w q⟩
      | succ m ih =>
        intro i hi hlow
        show B_X9_judge_62 0 _ _ _ _ _ _
        unfold B_X9_judge_62
        refine br_f (nI_ge (by omega) (by omega)) ?_
        refine sp_get k3 es (by omega) (by rw [show 109 + 3 * s + 1 = 110 + 3 * s from by omega, l40]; exact hz) (by rw [show 109 + 3 * s + 1 = 110 + 3 * s from by omega, l40]; decide) ?_
        refine ⟨vp_in_nI (by omega) (by decide), ?_⟩
        rw [nI_clamp (by omega), show 109 + 3 * s + 1 = 110 + 3 * s from by omega, ej i (by omega), show M (0 + 1 + 1 + 13 + 9 + i) 3 = W i from wM i (by omega), show M 131 (40 * s + i) = G i from by rw [eG]]
        by_cases q : G i = W i
        · refine ⟨fun _ => ?_, fun w => absurd q w⟩
          intro x ex
          rw [nI_1] at ex
          subst ex
          refine ih (i + 1) (by omega) (fun j hj => ?_)
          by_cases u : j = i
          · rw [u]; exact q
          · exact hlow j (by omega)
        · exact ⟨fun w => absurd w q, fun _ => mdl i _ (by omega) (by omega) hlow (Or.inr (Or.inr q)) (by rw [if_neg (by omega)])⟩
    exact ⟨bo + 1, pc bo 0 (by omega) (fun j hj => by omega)⟩
  · refine b2f h1 (sp_refuse (k := 1) (by decide) (by decide) ?_)
    unfold wp_X10_judge
    refine ⟨by decide, ?_⟩
    rw [e_mSheet]
    exact b2f h1 (fin_err (e := -1000000001) h (k := 1) (by decide) (by decide) rfl)
/-- SNOWS -/
def snZ (r g : Nat → Int32) : Nat → Nat → Int32
  | 0 => r
  | c + 1 => upd (snZ r g c) (8 + c) (g c)
theorem sn_RO {r g : Nat → Int32} {ns nk hr : Nat} (hR : RO r ns nk hr) : ∀ c, c ≤ 10 → (∀ j, j < c → zin (g j) 0 999) → RO (snZ r g c) ns nk hr
  | 0, _, _ => hR
  | c + 1, hc, hg => (sn_RO hR c (by omega) (fun j hj => hg j (by omega))).snow ((zin_nI (n := 999) (by decide)).mp (hg c (by omega))) (by omega)
theorem sn_off {r g : Nat → Int32} {i : Nat} (hi : i < 8 ∨ 18 ≤ i) : ∀ c, c ≤ 10 → snZ r g c i = r i
  | 0, _ => rfl
  | c + 1, hc => (upd_off (by omega)).trans (sn_off hi c (by omega))
theorem call_snows {n : Nat} {M : Mem} (h : INV n M) (a : Int32) : wp_X9_snows 0 a M (fun r M1 => wp_X10_snows 120 a M1 (fun r2 M2 => r = r2 ∧ INV (n + 1) M2)) := by
  obtain ⟨ns, nk, hr, hR, hh⟩ := h.ro
  unfold wp_X9_snows
  refine ⟨by decide, ?_⟩
  rw [e_isSheet]
  by_cases h1 : zin a 0 3
  · refine b2t h1 ?_
    obtain ⟨s, hs, rfl⟩ := (zin_nI (n := 3) (by decide)).mp h1
    obtain ⟨k6, k3, l40⟩ := sh_kd s (by omega)
    obtain ⟨z, hz, ez, eb, es, ej, hbt⟩ := h.sh (s := s) (by omega)
    obtain ⟨r, er⟩ : ∃ r, r = M 121 := ⟨_, rfl⟩
    rw [← er] at hR
    refine ⟨vp_in_nI (by omega) (by decide), ?_⟩
    rw [nI_clamp (by omega)]
    intro q eq
    have eq : q = 108 + 3 * s := by omega
    subst eq
    unfold wp_X6_isMissing
    refine ⟨k6, ?_⟩
    dsimp only
    rw [eb]
    by_cases g : M 129 s = 0
    · refine ⟨fun z => absurd g z, fun _ => ⟨fun z => absurd z (by decide), fun _ => sp_refuse (k := 2) (by decide) (by decide) ?_⟩⟩
      unfold wp_X10_snows
      refine ⟨by decide, ?_⟩
      rw [e_mSheet]
      refine b2t h1 ⟨vp_in_nI (by omega) (by decide), ?_⟩
      rw [nI_clamp (by omega), show (mu M 107 2 (M 107 2 + 1)) (120 + 9) = M 129 from mu_ne (by decide)]
      exact ⟨fun z => absurd g z, fun _ => fin_err (e := -1000000002) h (k := 2) (by decide) (by decide) rfl⟩
    refine ⟨fun _ => ⟨fun _ => ?_, fun z => absurd rfl z⟩, fun z => absurd z g⟩
    obtain ⟨G, eG⟩ : ∃ G : Nat → Int32, G = fun j => M 131 (40 * s + j) := ⟨_, rfl⟩
    have Ge : ∀ j, M 131 (40 * s + j) = G j := fun j => by rw [eG]
    have mdl : ∀ (p : Nat) (M1 : Mem), p ≤ 10 → p ≤ z → (∀ j, j < p → zin (G j) 0 999) → (p = 10 ∨ p = z ∨ ¬ zin (G p) 0 999) → MR M1 2 (snZ r G p) → only (mo 2) M M1 → wp_X10_snows 120 (nI s) M1 (fun r2 M2 => nI p = r2 ∧ INV (n + 1) M2) := by
      intro p M1 hp1 hp2 hlow hend m1 o1
      have hi := mo_scC o1
      have fin : ∀ M2, M2 121 = snZ r G p → (∀ b, b ≠ 121 → M2 b = M1 b) → INV (n + 1) M2 := by
        intro M2 e2 k2
        have off : ∀ i, (i < 8 ∨ 18 ≤ i) → snZ r G p i = M 121 i := fun i hi2 => by rw [sn_off hi2 p hp1, er]
        exact h.moor (r := snZ r G p) (M1 := M1) (RW.ro (ns := 0) (nk := 0) (hr := 0) h.2.1.1 (sn_RO hR p hp1 hlow) hh (fun i hi2 => off i (by omega))) m1 o1 (fun i hi2 => off i (by omega)) (fun b hb => k2 b (by omega)) (fun b g1 g2 => (k2 b g2).trans (hi b g1)) e2 (fun i hi2 => by rw [off i (by omega)]; exact h.z i hi2)
      have pm : ∀ (m i : Nat) (M2 : Mem), i + m = p → M2 121 = snZ r G i → (∀ b, b ≠ 121 → M2 b = M1 b) → l_X10_snows_32 120 (fun r2 M2 => nI p = r2 ∧ INV (n + 1) M2) (nI s) (m + 1) (nI i) M2 := by
        intro m
        induction m with
        | zero =>
          intro i M2 hi2 e2 k2
          have : i = p := by omega
          subst this
          show B_X10_snows_32 120 _ _ _ _ _
          unfold B_X10_snows_32
          have f := fin M2 e2 k2
          refine ⟨vp_in_nI (by omega) (by decide), ?_⟩
          rw [nI_clamp (by omega), show M2 (120 + 10) = M 130 from (k2 130 (by decide)).trans (hi 130 (by decide)), ez]
          by_cases q2 : i = z
          · exact br_t (nI_le (by omega) (by omega)) ⟨rfl, f⟩
          · refine br_f (nI_ge (by omega) (by omega)) ?_
            rw [e_mCell]
            by_cases q1 : i = 10
            · subst q1; exact b1f (by decide) ⟨rfl, f⟩
            · refine b1t ((zin_nI (n := 9) (by decide)).mpr ⟨i, by omega, rfl⟩) ?_
              rw [show (40 : Int32) = nI 40 from rfl, pk_mul, nI_add]
              refine ⟨vp_in_nI (by omega) (by decide), ?_⟩
              rw [nI_clamp (by omega), show M2 (120 + 11) = M 131 from (k2 131 (by decide)).trans (hi 131 (by decide)), Ge, e_in]
              exact b1f ((hend.resolve_left q1).resolve_left q2) ⟨rfl, f⟩
        | succ m ih =>
          intro i M2 hi2 e2 k2
          show B_X10_snows_32 120 _ _ _ _ _
          unfold B_X10_snows_32
          refine ⟨vp_in_nI (by omega) (by decide), ?_⟩
          rw [nI_clamp (by omega), show M2 (120 + 10) = M 130 from (k2 130 (by decide)).trans (hi 130 (by decide)), ez]
          refine br_f (nI_ge (by omega) (by omega)) ?_
          rw [e_mCell]
          refine b1t ((zin_nI (n := 9) (by decide)).mpr ⟨i, by omega, rfl⟩) ?_
          rw [show (40 : Int32) = nI 40 from rfl, pk_mul, nI_add]
          refine ⟨vp_in_nI (by omega) (by decide), ?_⟩
          rw [nI_clamp (by omega), show M2 (120 + 11) = M 131 from (k2 131 (by decide)).trans (hi 131 (by decide)), Ge, e_in]
          refine b1t (hlow i (by omega)) ?_
          rw [show (8 : Int32) = nI 8 from rfl, nI_add]
          refine ⟨vp_in_nI (by omega) (by decide), vp_in_nI (by omega) (by decide), ?_⟩
          rw [nI_clamp (by omega)]
          intro M3 e3 x ex
          rw [nI_1] at ex
          subst ex
          refine ih (i + 1) M3 (by omega) ?_ (fun b hb => by rw [e3, mu_ne hb]; exact k2 b hb)
          rw [e3, show (120 + 1 : Nat) = 121 from rfl, mu_same, e2, show M2 (120 + 11) = M 131 from (k2 131 (by decide)).trans (hi 131 (by decide)), Ge]
          rfl
      unfold wp_X10_snows
      refine ⟨by decide, ?_⟩
      rw [e_mSheet]
      refine b2t h1 ⟨vp_in_nI (by omega) (by decide), ?_⟩
      rw [nI_clamp (by omega), show M1 (120 + 9) = M 129 from hi 129 (by decide)]
      exact ⟨fun _ => ⟨p + 1, pm p 0 M1 (by omega) ((hi 121 (by decide)).trans er.symm) (fun _ _ => rfl)⟩, fun z => absurd z g⟩
    have pc : ∀ (m i : Nat) (M1 : Mem), i + m = 10 → i ≤ z → (∀ j, j < i → zin (G j) 0 999) → MR M1 2 (snZ r G i) → only (mo 2) M M1 → l_X9_snows_35 0 (fun r M1 => wp_X10_snows 120 (nI s) M1 (fun r2 M2 => r = r2 ∧ INV (n + 1) M2)) (108 + 3 * s) (m + 1) (nI i) M1 := by
      intro m
      induction m with
      | zero =>
        intro i M1 hi hz2 hlow m1 o1
        have : i = 10 := by omega
        subst this
        show B_X9_snows_35 0 _ _ _ _ _
        unfold B_X9_snows_35
        exact br_t (by decide) (mdl 10 M1 (by omega) hz2 hlow (Or.inl rfl) m1 o1)
      | succ m ih =>
        intro i M1 hi hz2 hlow m1 o1
        show B_X9_snows_35 0 _ _ _ _ _
        unfold B_X9_snows_35
        have es1 : M1 (109 + 3 * s) 1 = nI z := (congrFun (o1 _ (by unfold mo; omega)) 1).trans es
        rw [show 108 + 3 * s + 1 = 109 + 3 * s from by omega, es1]
        refine br_f (fun z => nI_ge (a := i) (b := 10) (by omega) (by decide) z) ?_
        by_cases q2 : i = z
        · exact br_t (nI_le (by omega) (by omega)) (mdl i M1 (by omega) hz2 hlow (Or.inr (Or.inl q2)) m1 o1)
        · refine br_f (nI_ge (by omega) (by omega)) ?_
          have ge : ∀ {Q : Int32 → Mem → Prop}, Q (G i) M1 → wp_X3_get (109 + 3 * s) (nI i) M1 Q := fun hQ => by
            refine sp_get k3 es1 (by omega) (by rw [show 109 + 3 * s + 1 = 110 + 3 * s from by omega, l40]; exact hz) (by rw [show 109 + 3 * s + 1 = 110 + 3 * s from by omega, l40]; decide) ?_
            rw [show 109 + 3 * s + 1 = 110 + 3 * s from by omega, o1 _ (by unfold mo; omega), ej i (by omega), Ge]
            exact hQ
          refine ge ?_
          rw [e_isWithin]
          by_cases q3 : zin (G i) 0 999
          · refine b1t q3 (ge ⟨vp_in_nI (by omega) (by decide), ?_⟩)
            rw [nI_clamp (by omega)]
            intro M2 e2 x ex
            rw [nI_1] at ex
            subst ex
            refine ih (i + 1) M2 (by omega) (by omega) (fun j hj => ?_) (by rw [e2]; exact m1.snow (by omega)) (o1.tr (by rw [e2]; exact only.mu ⟨by omega, by omega⟩))
            by_cases u : j = i
            · rw [u]; exact q3
            · exact hlow j (by omega)
          · exact b1f q3 (mdl i M1 (by omega) hz2 hlow (Or.inr (Or.inr q3)) m1 o1)
    exact ⟨11, pc 10 0 M (by omega) (by omega) (fun j hj => by omega) (by have := h.mr; rw [← er] at this; exact this) only.rf⟩
  · refine b2f h1 (sp_refuse (k := 1) (by decide) (by decide) ?_)
    unfold wp_X10_snows
    refine ⟨by decide, ?_⟩
    rw [e_mSheet]
    exact b2f h1 (fin_err (e := -1000000001) h (k := 1) (by decide) (by decide) rfl)
