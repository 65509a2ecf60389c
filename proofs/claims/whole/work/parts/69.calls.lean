theorem call_when {n : Nat} {M : Mem} (h : INV n M) (a : Int32) : wp_X9_when 0 a M (fun r M1 => wp_X10_when 120 a M1 (fun r2 M2 => r = r2 ∧ INV (n + 1) M2)) := by
  obtain ⟨ns, nk, hr, hR, hh⟩ := h.ro
  have n7 := hR.2.1.2
  have e27 : M 2 7 = nI nk := h.mr.1.2.1.trans hR.2.1.1
  unfold wp_X9_when
  refine ⟨by decide, ?_⟩
  rw [e_isSheep, e27]
  by_cases h1 : zin a 0 (nI nk - 1)
  · refine b2t h1 ?_
    obtain ⟨k, hk, rfl⟩ := (zin_cnt (by omega)).mp h1
    refine sp_think h (fun M1 t1 m1 => ?_)
    refine sp_passFor (o := 69) (n := 60) (by decide) m1 hR (by omega) hk (fun p M2 hp hs hst m2 o2 => ?_)
    have t2 := t1.tr (TC.of o2 m2)
    have e := t2.off (b := 121) (by omega)
    have hRp := pass_RO hR p (by omega)
    have F : M2 (69 + 13 + 9 + k) 5 = passZ ns nk (M 121) p (30 + 6 * k + 5) := m2.2.2.2.1 k (by rw [hRp.tn2]; omega) 5 (by decide)
    refine ⟨vp_in_nI (by omega) (by decide), ?_⟩
    rw [nI_clamp (by omega), show M2 (0 + 69 + 13 + 9 + k) 5 = _ from F]
    -- the reference, until hour p'
    have mdl : ∀ (p' : Nat) (Q : Int32 → Mem → Prop) (M3 : Mem), M3 121 = M 121 → p' ≤ 61 → (∀ i, i < p' → passZ ns nk (M 121) i (30 + 6 * k + 5) = 0) → (p' = 61 ∨ ¬ passZ ns nk (M 121) p' (30 + 6 * k + 5) = 0) →
        (∀ M4, only scrH (mcp M3 121 0 123 0 242) M4 → M4 121 = passZ ns nk (M 121) p' → b_X10_when_54 120 Q (nI p') M4) → wp_X10_when 120 (nI k) M3 Q := by
      intro p' Q M3 e3 hp' hlow hend hq
      have e0 : mcp M3 121 0 123 0 242 121 = M 121 := (mcp_ne (by decide)).trans e3
      have pl : ∀ (m i : Nat) (M4 : Mem), i + m = p' → M4 121 = passZ ns nk (M 121) i → only scrH (mcp M3 121 0 123 0 242) M4 → l_X10_when_29 120 Q (nI k) (m + 1) (nI i) M4 := by
        intro m
        induction m with
        | zero =>
          intro i M4 hi e4 o4
          have : i = p' := by omega
          subst this
          show B_X10_when_29 120 Q _ _ _ _
          unfold B_X10_when_29
          rcases hend with q | q
          · subst q; exact br_t (by decide) (hq M4 o4 e4)
          · by_cases q61 : i = 61
            · subst q61; exact br_t (by decide) (hq M4 o4 e4)
            · refine br_f (fun z => nI_nlt (a := 60) (b := i) (by omega) (by omega) z) (sp_its (w := 5) (by omega) (by decide) ?_)
              rw [e4]
              exact ⟨fun _ => hq M4 o4 e4, fun z => absurd z q⟩
        | succ m ih =>
          intro i M4 hi e4 o4
          show B_X10_when_29 120 Q _ _ _ _
          unfold B_X10_when_29
          refine br_f (fun z => nI_nlt (a := 60) (b := i) (by omega) (by omega) z) (sp_its (w := 5) (by omega) (by decide) ?_)
          rw [e4]
          refine ⟨fun z => absurd (hlow i (by omega)) z, fun _ => ?_⟩
          refine sp_mHour (by rw [e4]; exact pass_RO hR i (by omega)) (fun M5 e5 _ o5 => ?_)
          intro x ex
          rw [nI_1] at ex
          subst ex
          exact ih (i + 1) M5 (by omega) (by rw [e5, e4]; rfl) (o4.tr o5)
      unfold wp_X10_when
      refine ⟨by decide, ?_⟩
      rw [e_mSheep, e3, hR.2.1.1]
      refine b2t h1 (sp_moveAll (a := 121) (d := 123) (by omega) (by omega) (by omega) ?_)
      exact ⟨p' + 1, pl p' 0 _ (by omega) e0 only.rf⟩
    have hlow : ∀ i, i < p → passZ ns nk (M 121) i (30 + 6 * k + 5) = 0 := fun i hi => (hs i hi).1
    by_cases hf : passZ ns nk (M 121) p (30 + 6 * k + 5) = 0
    · refine ⟨fun _ => ?_, fun z => absurd hf z⟩
      refine sp_refuse (k := 2) (by decide) (by decide) ?_
      have all : ∀ i, i < 61 → passZ ns nk (M 121) i (30 + 6 * k + 5) = 0 := by
        intro i hi
        by_cases q : i < p
        · exact hlow i q
        · rcases hst with q2 | q2
          · have : i = p := by omega
            rw [this]; exact hf
          · have := (pass_keep hR q2 (i - p) (by omega)).1
            rw [show p + (i - p) = i from by omega] at this
            rw [this]; exact hf
      refine mdl 61 _ _ (by rw [mu_ne (by decide)]; exact e) (by omega) all (Or.inl rfl) (fun M4 o4 e4 => ?_)
      unfold b_X10_when_54
      refine sp_moveAll (a := 123) (d := 121) (by omega) (by omega) (by omega) ?_
      obtain ⟨b1, b2⟩ := back_all o4 (fun i hi => by rw [e4, mu_ne (by decide), e]; exact pass_out hR hi 61 (by omega))
      rw [mu_ne (by decide)] at b1
      exact br_f (by decide) (fin_errF (h.tc t2) (e := -1000000002) (k := 2) (by decide) (by decide) rfl b2 b1)
    · refine ⟨fun z => absurd z hf, fun _ => ?_⟩
      refine mdl p _ _ e (by omega) hlow (Or.inr hf) (fun M4 o4 e4 => ?_)
      unfold b_X10_when_54
      refine sp_moveAll (a := 123) (d := 121) (by omega) (by omega) (by omega) ?_
      obtain ⟨b1, b2⟩ := back_all o4 (fun i hi => by rw [e4, e]; exact pass_out hR hi p (by omega))
      exact br_t (nI_le (b := 60) hp (by decide)) ⟨rfl, (h.tc t2).fq b2 b1⟩
  · refine b2f h1 (sp_refuse (k := 1) (by decide) (by decide) ?_)
    unfold wp_X10_when
    refine ⟨by decide, ?_⟩
    rw [e_mSheep, mu_ne (by decide), hR.2.1.1]
    exact b2f h1 (fin_err (e := -1000000001) h (k := 1) (by decide) (by decide) rfl)
/-- NOBODY -/
noncomputable def sgZ (r : Nat → Int32) : Nat → Int32
  | 0 => 0
  | k + 1 => sgZ r k ||| (@ite _ (soughtZ r k) (Classical.propDecidable _) (ish 1 (nI k)) 0)
theorem sp_sought {ns nk hr : Nat} {r : Nat → Int32} {M : Mem} {Q : Int32 → Mem → Prop} (hM : MR M 2 r) (hR : RO r ns nk hr) (hQ : Q (sgZ r nk) M) : wp_X1_soughtSet 2 M Q := by
  have n7 := hR.2.1.2
  have p : ∀ (m i : Nat), i + m = nk → l_X1_soughtSet_4 2 Q (m + 1) (sgZ r i) (nI i) M := by
    intro m
    induction m with
    | zero =>
      intro i hi
      have : i = nk := by omega
      subst this
      show B_X1_soughtSet_4 2 Q _ _ _ _
      unfold B_X1_soughtSet_4
      rw [show M 2 7 = nI i from hM.1.2.1.trans hR.2.1.1]
      exact br_t (nI_le (Nat.le_refl _) (by omega)) hQ
    | succ m ih =>
      intro i hi
      show B_X1_soughtSet_4 2 Q _ _ _ _
      unfold B_X1_soughtSet_4
      rw [show M 2 7 = nI nk from hM.1.2.1.trans hR.2.1.1]
      refine br_f (nI_ge (by omega) (by omega)) ⟨vp_in_nI (by omega) (by decide), ?_⟩
      rw [nI_clamp (by omega)]
      have fin : ∀ x : Int32, x = (@ite _ (soughtZ r i) (Classical.propDecidable _) (ish 1 (nI i)) 0) → b_X1_soughtSet_32 2 Q (l_X1_soughtSet_4 2 Q (m + 1)) (nI i) (sgZ r i) x M := by
        intro x ex
        unfold b_X1_soughtSet_32
        intro y ey z ez
        rw [nI_1] at ez
        subst ez ey ex
        exact ih (i + 1) (by omega)
      exact sp_isSought (o := 2) (by decide) hM hR (by omega) (fun q => ⟨fun z => absurd z (by decide), fun _ => fin _ (by rw [if_pos q])⟩) (fun q => ⟨fun _ => fin _ (by rw [if_neg q]), fun z => absurd rfl z⟩)
  unfold wp_X1_soughtSet
  exact ⟨by decide, nk + 1, p nk 0 (by omega)⟩
noncomputable def nbZ (r : Nat → Int32) (nk : Nat) : Nat → Int32
  | 0 => sgZ r nk
  | s + 1 => if outZ r s nk < 0 then nbZ r nk s else nbZ r nk s &&& (ish 1 (outZ r s nk) ^^^ (-1))
theorem and_m1 (x : Int32) : x &&& (-1) = x := by simp
theorem call_nobody {n : Nat} {M : Mem} (h : INV n M) : wp_X9_nobody 0 M (fun r M1 => wp_X10_nobody 120 M1 (fun r2 M2 => r = r2 ∧ INV (n + 1) M2)) := by
  obtain ⟨ns, nk, hr, hR, hh⟩ := h.ro
  have n7 := hR.2.1.2
  have n6 := hR.1.2
  obtain ⟨r, er⟩ : ∃ r, r = M 121 := ⟨_, rfl⟩
  rw [← er] at hR
  unfold wp_X9_nobody
  refine ⟨by decide, sp_sought (by rw [er]; exact h.mr) (r := r) hR ?_⟩
  have pc : ∀ (m i : Nat) (M1 : Mem), i + m = ns → only (scrL 8) M M1 → l_X9_nobody_13 0 (fun r M1 => wp_X10_nobody 120 M1 (fun r2 M2 => r = r2 ∧ INV (n + 1) M2)) (m + 1) (nbZ r nk i) (nI i) M1 := by
    intro m
    induction m with
    | zero =>
      intro i M1 hi o1
      have : i = ns := by omega
      subst this
      show B_X9_nobody_13 0 _ _ _ _ _
      unfold B_X9_nobody_13
      have hc : only scC M M1 := o1.mono (fun b z => by unfold scrL at z; unfold scC scO; omega)
      have hi1 : ∀ b, 120 ≤ b → M1 b = M b := fun b hb => o1 b (by unfold scrL; omega)
      rw [show M1 (0 + 1 + 1) 6 = nI i from by rw [show M1 (0 + 1 + 1) = M 2 from o1 2 (by unfold scrL; omega)]; exact h.mr.1.2.2.trans (by rw [← er]; exact hR.1.1)]
      refine br_t (nI_le (Nat.le_refl _) (by omega)) ?_
      have e1 : M1 121 = r := (hi1 121 (by decide)).trans er.symm
      have p2 : ∀ (m j : Nat) (M2 : Mem), j + m = i → only scrM M1 M2 → l_X10_nobody_49 120 (fun r2 M2 => nbZ r nk i = r2 ∧ INV (n + 1) M2) (m + 1) (nbZ r nk j) (nI j) M2 := by
        intro m
        induction m with
        | zero =>
          intro j M2 hj o2
          have : j = i := by omega
          subst this
          show B_X10_nobody_49 120 _ _ _ _ _
          unfold B_X10_nobody_49
          have e2 : M2 121 = r := (o2 121 (by unfold scrM; omega)).trans e1
          rw [show M2 (120 + 1) 3 = nI j from by rw [show M2 (120 + 1) = r from e2]; exact hR.1.1]
          refine br_t (nI_le (Nat.le_refl _) (by omega)) ⟨rfl, ?_⟩
          exact h.q hc hi1 (scrM_Q o2) (by rw [e2, e1]) (fun i hi => by rw [o2 123 (by unfold scrM; omega), hi1 123 (by decide)]; exact (h.2.2 i hi).2.2)
        | succ m ih =>
          intro j M2 hj o2
          show B_X10_nobody_49 120 _ _ _ _ _
          unfold B_X10_nobody_49
          have e2 : M2 121 = r := (o2 121 (by unfold scrM; omega)).trans e1
          rw [show M2 (120 + 1) 3 = nI i from by rw [show M2 (120 + 1) = r from e2]; exact hR.1.1]
          refine br_f (nI_ge (by omega) (by omega)) (sp_mOut (ns := i) (by rw [e2]; exact hR) (by omega) (fun M3 o3 => ?_))
          rw [e2]
          by_cases q : outZ r j nk < 0
          · refine br_f (nlt_le.mpr q) ?_
            unfold b_X10_nobody_79
            intro x ex y ey
            rw [nI_1] at ey
            rw [and_m1] at ex
            subst ex ey
            have := ih (j + 1) M3 (by omega) (o2.tr o3)
            rw [show nbZ r nk (j + 1) = nbZ r nk j from if_pos q] at this
            exact this
          · refine br_t (nle_lt.mp q) ?_
            unfold b_X10_nobody_79
            intro x ex y ey
            rw [nI_1] at ey
            subst ex ey
            have := ih (j + 1) M3 (by omega) (o2.tr o3)
            rw [show nbZ r nk (j + 1) = _ from if_neg q] at this
            exact this
      have p1 : ∀ (m j : Nat), j + m = nk → l_X10_nobody_4 120 (fun r2 M2 => nbZ r nk i = r2 ∧ INV (n + 1) M2) (m + 1) (sgZ r j) (nI j) M1 := by
        intro m
        induction m with
        | zero =>
          intro j hj
          have : j = nk := by omega
          subst this
          show B_X10_nobody_4 120 _ _ _ _ _
          unfold B_X10_nobody_4
          rw [show M1 (120 + 1) 2 = nI j from by rw [show M1 (120 + 1) = r from e1]; exact hR.2.1.1]
          exact br_t (nI_le (Nat.le_refl _) (by omega)) ⟨i + 1, p2 i 0 M1 (by omega) only.rf⟩
        | succ m ih =>
          intro j hj
          show B_X10_nobody_4 120 _ _ _ _ _
          unfold B_X10_nobody_4
          rw [show M1 (120 + 1) 2 = nI nk from by rw [show M1 (120 + 1) = r from e1]; exact hR.2.1.1]
          refine br_f (nI_ge (by omega) (by omega)) (sp_its (w := 5) (by omega) (by decide) ?_)
          have fin : ∀ x : Int32, x = (@ite _ (soughtZ r j) (Classical.propDecidable _) (ish 1 (nI j)) 0) → b_X10_nobody_39 120 (fun r2 M2 => nbZ r nk i = r2 ∧ INV (n + 1) M2) (l_X10_nobody_4 120 (fun r2 M2 => nbZ r nk i = r2 ∧ INV (n + 1) M2) (m + 1)) (nI j) (sgZ r j) x M1 := by
            intro x ex
            unfold b_X10_nobody_39
            intro y ey z ez
            rw [nI_1] at ez
            subst ez ey ex
            exact ih (j + 1) (by omega)
          unfold b_X10_nobody_38
          by_cases q5 : M1 121 (30 + 6 * j + 5) = 0
          · refine ⟨fun z => absurd q5 z, fun _ => ?_⟩
            refine sp_mIsLost (by omega) (fun q => ⟨fun _ => fin _ ?_, fun z => absurd z (by decide)⟩) (fun q => ⟨fun z => absurd rfl z, fun _ => fin _ ?_⟩)
            · rw [e1] at q; rw [if_neg (fun z => z.2 q.2)]
            · rw [e1] at q q5; rw [if_pos ⟨q5, fun z => q ⟨q5, z⟩⟩]
          · refine ⟨fun _ => fin _ ?_, fun z => absurd z q5⟩
            rw [e1] at q5; rw [if_neg (fun z => q5 z.1)]
      unfold wp_X10_nobody
      exact ⟨by decide, nk + 1, p1 nk 0 (by omega)⟩
    | succ m ih =>
      intro i M1 hi o1
      show B_X9_nobody_13 0 _ _ _ _ _
      unfold B_X9_nobody_13
      rw [show M1 (0 + 1 + 1) 6 = nI ns from by rw [show M1 (0 + 1 + 1) = M 2 from o1 2 (by unfold scrL; omega)]; exact h.mr.1.2.2.trans (by rw [← er]; exact hR.1.1)]
      refine br_f (nI_ge (by omega) (by omega)) ?_
      have hm1 : MR M1 2 r := by
        have := h.mr
        rw [← er] at this
        exact this.kept (by rw [hR.tn3]; omega) (by rw [hR.tn2]; omega) (fun b g1 g2 g3 => o1 b (fun z => g3 (by unfold scrL at z; unfold scO; omega)))
      refine sp_out (o := 2) (by decide) hm1 hR (by omega) (fun M3 o3 => ?_)
      unfold b_X9_nobody_51
      by_cases q : outZ r i nk < 0
      · refine br_t q ?_
        intro y ey
        rw [nI_1] at ey
        subst ey
        have := ih (i + 1) M3 (by omega) (o1.tr o3)
        unfold nbZ at this
        rw [if_pos q] at this
        exact this
      · refine br_f q ?_
        intro x ex y ey
        rw [nI_1] at ey
        subst ex ey
        have := ih (i + 1) M3 (by omega) (o1.tr o3)
        unfold nbZ at this
        rw [if_neg q] at this
        exact this
  exact ⟨ns + 1, pc ns 0 M (by omega) only.rf⟩
