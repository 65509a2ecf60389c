/-! ===== for whom a SEEKER is out ===== -/
def dZ (r : Nat → Int32) (s k : Nat) : Int32 := apartZ (r (18 + 2 * s)) (r (30 + 6 * k + 2))
def wantZ (r : Nat → Int32) (s k : Nat) (best : Int32) : Prop :=
  r (30 + 6 * k + 5) = 0 ∧ ¬ r (30 + 6 * k + 3) = 0 ∧ ((isr (r (30 + 6 * k + 4)) (nI s)) &&& 1) = 1 ∧ (best < 0 ∨ dZ r s k < dZ r s (tn best)) ∧ ¬ lawG r (dZ r s k) (r (30 + 6 * k + 3)) (r (30 + 6 * k + 1)) = 0
noncomputable def outZ (r : Nat → Int32) (s : Nat) : Nat → Int32
  | 0 => -1
  | k + 1 => @ite _ (wantZ r s k (outZ r s k)) (Classical.propDecidable _) (nI k) (outZ r s k)
theorem out_is (r : Nat → Int32) (s : Nat) : ∀ n, outZ r s n = -1 ∨ ∃ k, k < n ∧ outZ r s n = nI k ∧ r (30 + 6 * k + 5) = 0 ∧ ¬ r (30 + 6 * k + 3) = 0
  | 0 => Or.inl rfl
  | n + 1 => by
    unfold outZ
    by_cases h : wantZ r s n (outZ r s n)
    · rw [if_pos h]
      exact Or.inr ⟨n, by omega, rfl, h.1, h.2.1⟩
    · rw [if_neg h]
      rcases out_is r s n with q | ⟨k, q1, q2⟩
      · exact Or.inl q
      · exact Or.inr ⟨k, by omega, q2⟩
theorem d_all : ∀ a, a ≤ 9 → ∀ b, b ≤ 9 → apartZ (nI a) (nI b) = iab (nI b - nI a) ∧ apartZ (nI a) (nI b) < 10 := by decide
theorem RO.d {r : Nat → Int32} {ns nk hr s k : Nat} (h : RO r ns nk hr) (hs : s < ns) (hk : k < nk) : dZ r s k = iab (r (30 + 6 * k + 2) - r (18 + 2 * s)) ∧ dZ r s k < 10 := by
  obtain ⟨a, ha, ea⟩ := (h.2.2.2.2.1 s hs).1
  obtain ⟨b, hb, eb⟩ := h.fld (w := 2) hk (by decide)
  unfold dZ
  rw [ea, eb]
  exact d_all a ha b hb
/-- the class -/
theorem sp_out {o s ns nk hr : Nat} {r : Nat → Int32} {M : Mem} {Q : Int32 → Mem → Prop} (k : kdT o = 1) (hM : MR M o r) (hR : RO r ns nk hr) (hs : s < ns) (hQ : ∀ M', only (scrL (o + 6)) M M' → Q (outZ r s nk) M') : wp_X1_outFor o (nI s) M Q := by
  have n6 := hR.1.2
  have n7 := hR.2.1.2
  have t3 := hR.tn3
  have t2 := hR.tn2
  unfold wp_X1_outFor
  refine ⟨k, br_f (nI_pos (by omega)) ?_⟩
  have e6 : M o 6 = nI ns := hM.1.2.2.trans hR.1.1
  rw [e6]
  refine br_t (nI_lt hs (by omega)) ?_
  have key : ∀ (m i : Nat) (M1 : Mem) (few : Int32), i + m = nk → only (scrL (o + 6)) M M1 → (few = if outZ r s i < 0 then 10 else dZ r s (tn (outZ r s i))) → l_X1_outFor_22 o Q (nI s) (m + 1) (outZ r s i) few (nI i) M1 := by
    intro m
    induction m with
    | zero =>
      intro i M1 few hi ho hf
      have : i = nk := by omega
      subst this
      show B_X1_outFor_22 o Q _ _ _ _ _ _
      unfold B_X1_outFor_22
      have e7 : M1 o 7 = nI i := by rw [ho o (by unfold scrL; omega)]; exact hM.1.2.1.trans hR.2.1.1
      rw [e7]
      exact br_t (nI_le (Nat.le_refl _) (by omega)) (hQ _ ho)
    | succ m ih =>
      intro i M1 few hi ho hf
      have hM1 : MR M1 o r := hM.kept (by omega) (by omega) (fun b h1 h2 h3 => ho b (fun z => h3 (by unfold scrL at z; unfold scO; omega)))
      show B_X1_outFor_22 o Q _ _ _ _ _ _
      unfold B_X1_outFor_22
      have e7 : M1 o 7 = nI nk := hM1.1.2.1.trans hR.2.1.1
      rw [e7]
      refine br_f (nI_ge (by omega) (by omega)) ⟨vp_in_nI (by omega) (by decide), ?_⟩
      rw [nI_clamp (by omega), nI_clamp (by omega)]
      intro q eq
      refine ⟨vp_in_nI (by omega) (by decide), ?_⟩
      intro x ex
      have F : ∀ w, w < 6 → M1 q w = r (30 + 6 * i + w) := fun w hw => by rw [eq]; exact hM1.2.2.2.1 i (by rw [t2]; omega) w hw
      have kq : kdT q = 5 := by rw [eq]; exact ke13 (ks1_4 k) (by rw [ln1_4 k]; omega)
      rw [F 2 (by decide), (hM1.2.2.1 s (by rw [t3]; omega)).1, ← (hR.d hs (show i < nk by omega)).1] at ex
      subst ex
      have d10 := (hR.d hs (show i < nk by omega)).2
      -- going on with the same best
      have same : ∀ M2, only (scrL (o + 6)) M M2 → outZ r s (i + 1) = outZ r s i → b_X1_outFor_127 o Q (l_X1_outFor_22 o Q (nI s) (m + 1)) (nI s) (outZ r s i) few (nI i) M2 := by
        intro M2 ho2 he
        unfold b_X1_outFor_127
        intro x ex
        rw [nI_1] at ex
        subst ex
        rw [← he]
        exact ih (i + 1) M2 few (by omega) ho2 (by rw [he]; exact hf)
      have no : (¬ wantZ r s i (outZ r s i)) → outZ r s (i + 1) = outZ r s i := fun h => by
        show (@ite _ (wantZ r s i (outZ r s i)) (Classical.propDecidable _) (nI i) (outZ r s i)) = _
        rw [if_neg h]
      have skip : (¬ wantZ r s i (outZ r s i)) → b_X1_outFor_91 o Q (l_X1_outFor_22 o Q (nI s) (m + 1)) (nI s) (outZ r s i) few (nI i) q (dZ r s i) M1 := by
        intro h
        unfold b_X1_outFor_91 b_X1_outFor_92
        exact ⟨fun _ => same M1 ho (no h), fun z => absurd rfl z⟩
      unfold wp_X5_isSought
      refine ⟨kq, ?_⟩
      rw [F 5 (by decide), F 3 (by decide)]
      dsimp only
      rw [F 4 (by decide)]
      obtain ⟨wj, hw1, hw2⟩ := hR.fld (k := i) (w := 3) (by omega) (by decide)
      by_cases f0 : r (30 + 6 * i + 5) = 0
      · refine ⟨fun z => absurd f0 z, fun _ => ?_⟩
        by_cases w0 : r (30 + 6 * i + 3) = 0
        · refine br_t (by rw [w0]; decide) ?_
          exact ⟨fun _ => skip (fun h => h.2.1 w0), fun z => absurd rfl z⟩
        · refine br_f (fun z => w0 ?_) ?_
          · rw [hw2] at z ⊢
            rw [i_le, nI_toInt (by have : shB 3 = 99 := rfl; omega)] at z
            have z0 : (0 : Int32).toInt = 0 := by decide
            have : wj = 0 := by omega
            rw [this]; rfl
          · refine ⟨fun z => absurd z (by decide), fun _ => ?_⟩
            by_cases mk : ((isr (r (30 + 6 * i + 4)) (nI s)) &&& 1) = 1
            · refine ⟨fun z => absurd mk z, fun _ => ?_⟩
              have near : (¬ few ≤ dZ r s i) ↔ (outZ r s i < 0 ∨ dZ r s i < dZ r s (tn (outZ r s i))) := by
                rw [hf, nlt_le]
                by_cases b0 : outZ r s i < 0
                · rw [if_pos b0]
                  exact ⟨fun _ => Or.inl b0, fun _ => d10⟩
                · rw [if_neg b0]
                  exact ⟨fun h => Or.inr h, fun h => h.resolve_left b0⟩
              by_cases nr : few ≤ dZ r s i
              · refine br_t nr (skip (fun h => ?_))
                exact (near.mpr h.2.2.2.1) nr
              · refine br_f nr ?_
                unfold b_X1_outFor_92
                refine ⟨fun z => absurd z (by decide), fun _ => ?_⟩
                rw [F 3 (by decide), F 1 (by decide)]
                refine sp_gives (mst := 1) (sz := r 7) (g := fun j => r (192 + j)) (ks1_1 k) hM1.2.2.2.2.2 hR.2.2.2.2.2.2.2 (by decide) (fun M2 ho2 => ?_)
                have ho3 := ho.tr ho2
                refine ⟨fun z => ?_, fun z => ?_⟩
                · exact same M2 ho3 (no (fun h => h.2.2.2.2 z))
                · have yes : outZ r s (i + 1) = nI i := by
                    show (@ite _ (wantZ r s i (outZ r s i)) (Classical.propDecidable _) (nI i) (outZ r s i)) = _
                    rw [if_pos ⟨f0, w0, mk, near.mp nr, z⟩]
                  unfold b_X1_outFor_127
                  intro x ex
                  rw [nI_1] at ex
                  subst ex
                  rw [← yes]
                  refine ih (i + 1) M2 _ (by omega) ho3 ?_
                  rw [yes, if_neg (nI_pos (by omega)), tn, nI_clamp (by omega)]
            · exact ⟨fun _ => skip (fun h => mk h.2.2.1), fun z => absurd z mk⟩
      · refine ⟨fun _ => ⟨fun _ => skip (fun h => f0 h.1), fun z => absurd rfl z⟩, fun z => absurd z f0⟩
  refine ⟨nk + 1, ?_⟩
  exact key nk 0 M 10 (by omega) only.rf rfl
/-- the reference -/
theorem sp_mOut {s ns nk hr : Nat} {M : Mem} {Q : Int32 → Mem → Prop} (hR : RO (M 121) ns nk hr) (hs : s < ns) (hQ : ∀ M', only scrM M M' → Q (outZ (M 121) s nk) M') : wp_X10_outFor 120 (nI s) M Q := by
  have n6 := hR.1.2
  have n7 := hR.2.1.2
  obtain ⟨r, er⟩ : ∃ r, r = M 121 := ⟨_, rfl⟩
  rw [← er] at hR hQ
  unfold wp_X10_outFor
  refine ⟨by decide, ?_⟩
  have key : ∀ (m i : Nat) (M1 : Mem), i + m = nk → only scrM M M1 → l_X10_outFor_4 120 Q (nI s) (m + 1) (outZ r s i) (nI i) M1 := by
    intro m
    induction m with
    | zero =>
      intro i M1 hi ho
      have : i = nk := by omega
      subst this
      have e121 : M1 121 = r := (ho 121 (by unfold scrM; omega)).trans er.symm
      show B_X10_outFor_4 120 Q _ _ _ _ _
      unfold B_X10_outFor_4
      rw [show M1 (120 + 1) 2 = nI i from by rw [show M1 (120 + 1) = r from e121]; exact hR.2.1.1]
      exact br_t (nI_le (Nat.le_refl _) (by omega)) (hQ _ ho)
    | succ m ih =>
      intro i M1 hi ho
      have e121 : M1 121 = r := (ho 121 (by unfold scrM; omega)).trans er.symm
      show B_X10_outFor_4 120 Q _ _ _ _ _
      unfold B_X10_outFor_4
      rw [show M1 (120 + 1) 2 = nI nk from by rw [show M1 (120 + 1) = r from e121]; exact hR.2.1.1]
      refine br_f (nI_ge (by omega) (by omega)) ?_
      refine sp_at (by omega) ?_
      refine sp_its (w := 2) (by omega) (by decide) ?_
      rw [e_apart, e121, show apartZ (r (18 + 2 * s)) (r (30 + 6 * i + 2)) = dZ r s i from rfl]
      have same : ∀ M2, only scrM M M2 → outZ r s (i + 1) = outZ r s i → b_X10_outFor_120 120 Q (l_X10_outFor_4 120 Q (nI s) (m + 1)) (nI s) (outZ r s i) (nI i) M2 := by
        intro M2 ho2 he
        unfold b_X10_outFor_120
        intro x ex
        rw [nI_1] at ex
        subst ex
        rw [← he]
        exact ih (i + 1) M2 (by omega) ho2
      have no : (¬ wantZ r s i (outZ r s i)) → outZ r s (i + 1) = outZ r s i := fun h => by
        show (@ite _ (wantZ r s i (outZ r s i)) (Classical.propDecidable _) (nI i) (outZ r s i)) = _
        rw [if_neg h]
      have skip : (¬ wantZ r s i (outZ r s i)) → b_X10_outFor_65 120 Q (l_X10_outFor_4 120 Q (nI s) (m + 1)) (nI s) (outZ r s i) (nI i) (dZ r s i) M1 := by
        intro h
        unfold b_X10_outFor_65 b_X10_outFor_66
        exact ⟨fun _ => same M1 ho (no h), fun z => absurd rfl z⟩
      refine sp_its (w := 5) (by omega) (by decide) ?_
      rw [e121]
      by_cases f0 : r (30 + 6 * i + 5) = 0
      · refine ⟨fun z => absurd f0 z, fun _ => ?_⟩
        unfold wp_X10_isLost
        refine ⟨by decide, sp_its (w := 5) (by omega) (by decide) ?_⟩
        rw [e121]
        refine ⟨fun z => absurd f0 z, fun _ => ?_⟩
        refine sp_its (w := 3) (by omega) (by decide) ?_
        rw [e121]
        by_cases w0 : r (30 + 6 * i + 3) = 0
        · refine ⟨fun z => absurd w0 z, fun _ => ⟨fun _ => skip (fun h => h.2.1 w0), fun z => absurd z (by decide)⟩⟩
        · refine ⟨fun _ => ⟨fun z => absurd rfl z, fun _ => ?_⟩, fun z => absurd z w0⟩
          refine sp_its (w := 4) (by omega) (by decide) ?_
          rw [e121]
          by_cases mk : ((isr (r (30 + 6 * i + 4)) (nI s)) &&& 1) = 1
          · refine ⟨fun z => absurd mk z, fun _ => ?_⟩
            unfold b_X10_outFor_66
            refine ⟨fun z => absurd z (by decide), fun _ => ?_⟩
            have go : (outZ r s i < 0 ∨ dZ r s i < dZ r s (tn (outZ r s i))) → b_X10_outFor_96 120 Q (l_X10_outFor_4 120 Q (nI s) (m + 1)) (nI s) (outZ r s i) (nI i) (dZ r s i) M1 := by
              intro near
              unfold b_X10_outFor_96
              refine sp_its (w := 3) (by omega) (by decide) ?_
              refine sp_its (w := 1) (by omega) (by decide) ?_
              rw [e121]
              refine sp_mLaw (u := 1) (mst := 1) (g := fun j => r (192 + j)) (by decide) rfl (fun j _ => by rw [e121]) ?_ (fun M2 ho2 => ?_)
              · rw [e121]; exact hR.2.2.2.2.2.2.2
              · rw [e121]
                have ho3 := ho.tr ho2
                refine ⟨fun z => same M2 ho3 (no (fun h => h.2.2.2.2 z)), fun z => ?_⟩
                have yes : outZ r s (i + 1) = nI i := by
                  show (@ite _ (wantZ r s i (outZ r s i)) (Classical.propDecidable _) (nI i) (outZ r s i)) = _
                  rw [if_pos ⟨f0, w0, mk, near, z⟩]
                unfold b_X10_outFor_120
                intro x ex
                rw [nI_1] at ex
                subst ex
                have h := ih (i + 1) M2 (by omega) ho3
                rw [yes] at h
                exact h
            by_cases b0 : outZ r s i < 0
            · exact br_t b0 (go (Or.inl b0))
            · refine br_f b0 ?_
              rcases out_is r s i with q | ⟨kb, q1, q2, -⟩
              · rw [q] at b0; exact absurd (by decide) b0
              · refine sp_at (by omega) ?_
                rw [q2]
                refine sp_its (w := 2) (by omega) (by decide) ?_
                rw [e_apart, e121, show apartZ (r (18 + 2 * s)) (r (30 + 6 * kb + 2)) = dZ r s kb from rfl]
                have ekb : tn (outZ r s i) = kb := by rw [q2, tn, nI_clamp (by omega)]
                rw [← q2]
                by_cases nr : dZ r s kb ≤ dZ r s i
                · refine br_t nr (same M1 ho (no (fun h => ?_)))
                  rcases h.2.2.2.1 with z | z
                  · exact b0 z
                  · rw [ekb] at z
                    exact nlt_le.mpr z nr
                · exact br_f nr (go (Or.inr (by rw [ekb]; exact nlt_le.mp nr)))
          · exact ⟨fun _ => skip (fun h => mk h.2.2.1), fun z => absurd z mk⟩
      · exact ⟨fun _ => skip (fun h => f0 h.1), fun z => absurd z f0⟩
  exact ⟨nk + 1, key nk 0 M (by omega) only.rf⟩
