/-- ADD -/
noncomputable def adB (F : Nat → Prop) : Nat → Option Nat
  | 0 => none
  | i + 1 => @ite _ (F i ∧ ∀ b, adB F i = some b → pcN i < pcN b) (Classical.propDecidable _) (some i) (adB F i)
theorem ad_t {F : Nat → Prop} {i : Nat} (h : F i ∧ ∀ b, adB F i = some b → pcN i < pcN b) : adB F (i + 1) = some i := @if_pos _ (Classical.propDecidable _) h (Option Nat) (some i) (adB F i)
theorem ad_f {F : Nat → Prop} {i : Nat} (h : ¬ (F i ∧ ∀ b, adB F i = some b → pcN i < pcN b)) : adB F (i + 1) = adB F i := @if_neg _ (Classical.propDecidable _) h (Option Nat) (some i) (adB F i)
theorem ad_lt {F : Nat → Prop} : ∀ i b, adB F i = some b → b < i
  | 0, b, h => by exact absurd h (by simp [adB])
  | i + 1, b, h => by
    by_cases q : F i ∧ ∀ b, adB F i = some b → pcN i < pcN b
    · rw [ad_t q] at h; cases h; omega
    · rw [ad_f q] at h
      have := ad_lt i b h
      omega
theorem ad_le {F : Nat → Prop} : ∀ i t, t < i → F t → ∃ b, adB F i = some b ∧ pcN b ≤ pcN t
  | 0, t, h, _ => by omega
  | i + 1, t, h, hF => by
    by_cases q : F i ∧ ∀ b, adB F i = some b → pcN i < pcN b
    · refine ⟨i, ad_t q, ?_⟩
      by_cases e : t = i
      · rw [e]; exact Nat.le_refl _
      · obtain ⟨b, hb, hl⟩ := ad_le i t (by omega) hF
        have := q.2 b hb
        omega
    · rw [ad_f q]
      by_cases e : t = i
      · subst e
        refine Classical.byContradiction (fun z => q ⟨hF, fun b hb => ?_⟩)
        exact Classical.byContradiction (fun z2 => z ⟨b, hb, by omega⟩)
      · exact ad_le i t (by omega) hF
def bO (o : Option Nat) : Int32 := match o with
  | none => -1
  | some b => nI b
def fO (o : Option Nat) : Int32 := match o with
  | none => 7
  | some b => nI (pcN b)
theorem orm_all : ∀ m, m < 64 → ∀ i, i < 64 → zin (nI m ||| nI i) 0 63 := by decide +kernel
theorem andm_all : ∀ m, m < 64 → ∀ i, i < 64 → (nI i &&& nI m) = 0 ∨ (¬ (nI i &&& nI m) = 0 ∧ (i &&& (63 - m)) < i ∧ pcN (i &&& (63 - m)) < pcN i ∧ nI m ||| nI (i &&& (63 - m)) = nI m ||| nI i) := by decide +kernel
theorem pc6_all : ∀ i, i < 64 → pcN i ≤ 6 := by decide +kernel
theorem pw_all : ∀ n, n ≤ 6 → ish 1 (nI n) = nI (2 ^ n) ∧ 2 ^ n ≤ 64 := by decide
theorem call_add {n : Nat} {M : Mem} (h : INV n M) (a c : Int32) : wp_X9_add 0 a c M (fun r M1 => wp_X10_add 120 a c M1 (fun r2 M2 => r = r2 ∧ INV (n + 1) M2)) := by
  obtain ⟨ns, nk, hr, hR, hh⟩ := h.ro
  have n7 := hR.2.1.2
  have n6 := hR.1.2
  have e26 : M 2 6 = nI ns := h.mr.1.2.2.trans hR.1.1
  have e27 : M 2 7 = nI nk := h.mr.1.2.1.trans hR.2.1.1
  have bad : ¬ (zin a 0 (nI nk - 1) ∧ zin c 0 20) → wp_X9_refuse 0 1 M (fun r M1 => wp_X10_add 120 a c M1 (fun r2 M2 => r = r2 ∧ INV (n + 1) M2)) := by
    intro hb
    refine sp_refuse (k := 1) (by decide) (by decide) ?_
    unfold wp_X10_add b_X10_add_18
    refine ⟨by decide, ?_⟩
    rw [e_mSheep, e_in, mu_ne (by decide), hR.2.1.1]
    have fe := fin_err (e := -1000000001) h (k := 1) (by decide) (by decide) rfl
    by_cases h1 : zin a 0 (nI nk - 1)
    · exact b1t h1 (b2f (fun z => hb ⟨h1, z⟩) fe)
    · exact b1f h1 fe
  unfold wp_X9_add b_X9_add_17
  refine ⟨by decide, ?_⟩
  rw [e_isSheep, e_isWithin, e27]
  by_cases h1 : zin a 0 (nI nk - 1)
  · refine b1t h1 ?_
    by_cases h3 : zin c 0 20
    · refine b2t h3 ?_
      obtain ⟨k, hk, rfl⟩ := (zin_cnt (by omega)).mp h1
      obtain ⟨t, ht, rfl⟩ := (zin_nI (n := 20) (by decide)).mp h3
      obtain ⟨r, er⟩ : ∃ r, r = M 121 := ⟨_, rfl⟩
      rw [← er] at hR
      obtain ⟨mk, hmk, emk⟩ := hR.fld (k := k) (w := 4) hk (by decide)
      have hmk : mk ≤ 63 := hmk
      obtain ⟨pw, p64⟩ := pw_all ns n6
      have hRc : ∀ i, i < 64 → RO (upd r (30 + 6 * k + 4) (nI mk ||| nI i)) ns nk hr := fun i hi => hR.sheep hk (by decide) ((zin_nI (n := 63) (by decide)).mp (orm_all mk (by omega) i hi))
      obtain ⟨F, eF⟩ : ∃ F : Nat → Prop, F = fun i => ¬ passZ ns nk (upd r (30 + 6 * k + 4) (nI mk ||| nI i)) t (30 + 6 * k + 5) = 0 := ⟨_, rfl⟩
      have Fe : ∀ i, F i = ¬ passZ ns nk (upd r (30 + 6 * k + 4) (nI mk ||| nI i)) t (30 + 6 * k + 5) = 0 := fun i => by rw [eF]
      have bneg : ∀ i, i ≤ 64 → adB F i = none → bO (adB F i) < 0 := fun i _ e => by rw [e]; decide
      have bpos : ∀ i b, i ≤ 64 → adB F i = some b → ¬ bO (adB F i) < 0 := fun i b hi e => by
        have := ad_lt i b e
        rw [e]
        exact nI_pos (by omega)
      refine ⟨vp_in_nI (by omega) (by decide), ?_⟩
      rw [nI_clamp (by omega)]
      intro x ex
      have ex : x = nI mk := by
        rw [ex, ← emk, er]
        exact h.mr.2.2.2.1 k (by rw [← er, hR.tn2]; omega) 4 (by decide)
      subst ex
      -- the reference
      have mdl : ∀ (M1 : Mem) (Q : Int32 → Mem → Prop), M1 121 = r → (∀ M3, FQ M1 M3 → M3 121 = r → (∀ b, adB F (2 ^ ns) = some b → Q (nI b) M3) ∧ (adB F (2 ^ ns) = none → wp_X10_errs 120 (-1000000002) M3 Q)) → wp_X10_add 120 (nI k) (nI t) M1 Q := by
        intro M1 Q e hq
        have pm : ∀ (m i : Nat) (M2 : Mem), i + m = 2 ^ ns → FQ M1 M2 → (∃ x, M2 121 = upd r (30 + 6 * k + 4) x) → l_X10_add_38 120 Q (nI k) (nI t) (nI mk) (m + 1) (bO (adB F i)) (nI i) M2 := by
          intro m
          induction m with
          | zero =>
            intro i M2 hi f2 ⟨x, e2⟩
            have : i = 2 ^ ns := by omega
            subst this
            show B_X10_add_38 120 Q _ _ _ _ _ _ _
            unfold B_X10_add_38
            rw [show M2 (120 + 1) 3 = nI ns from by rw [show M2 (120 + 1) = _ from e2, upd_off (by omega)]; exact hR.1.1, pw]
            refine br_t (nI_le (Nat.le_refl _) (by omega)) (sp_gets (w := 4) (by omega) (by decide) ?_)
            have e31 : (mu M2 121 (30 + 6 * k + 4) (nI mk)) 121 = r := by rw [mu_same, e2, upd_upd, ← emk, upd_self]
            have g := hq _ (f2.tr (FQ.mu (k := 30 + 6 * k + 4) (v := nI mk))) e31
            cases eb : adB F (2 ^ ns) with
            | none => exact br_f (by decide) (g.2 eb)
            | some b => exact br_t (nI_pos' (by have := ad_lt _ b eb; omega)) (g.1 b eb)
          | succ m ih =>
            intro i M2 hi f2 ⟨x, e2⟩
            show B_X10_add_38 120 Q _ _ _ _ _ _ _
            unfold B_X10_add_38
            rw [show M2 (120 + 1) 3 = nI ns from by rw [show M2 (120 + 1) = _ from e2, upd_off (by omega)]; exact hR.1.1, pw]
            refine br_f (nI_ge (by omega) (by omega)) ?_
            have sk : ∀ M4 v, FQ M1 M4 → (∃ x, M4 121 = upd r (30 + 6 * k + 4) x) → v = bO (adB F (i + 1)) → b_X10_add_101 120 Q (l_X10_add_38 120 Q (nI k) (nI t) (nI mk) (m + 1)) (nI k) (nI t) (nI mk) v (nI i) M4 := by
              intro M4 v f4 e4 ev
              unfold b_X10_add_101
              intro y ey
              rw [nI_1] at ey
              subst ey ev
              exact ih (i + 1) M4 (by omega) f4 e4
            have tr : (∀ b, adB F i = some b → pcN i < pcN b) → b_X10_add_69 120 Q (l_X10_add_38 120 Q (nI k) (nI t) (nI mk) (m + 1)) (nI k) (nI t) (nI mk) (bO (adB F i)) (nI i) M2 := by
              intro hb
              unfold b_X10_add_69
              refine sp_gets (w := 4) (by omega) (by decide) ?_
              have e31 : (mu M2 121 (30 + 6 * k + 4) (nI mk ||| nI i)) 121 = upd r (30 + 6 * k + 4) (nI mk ||| nI i) := by rw [mu_same, e2, upd_upd]
              refine sp_fb (by rw [e31]; exact hRc i (by omega)) (by omega) (fun M4 e4 f4 => ?_)
              have hRt := pass_RO (hRc i (by omega)) t (by omega)
              rw [e31, fs_is hRt hk]
              obtain ⟨j, hj, ej⟩ := hRt.fld (k := k) (w := 5) hk (by decide)
              have hj : j ≤ 1 := hj
              unfold b_X10_add_99
              have : j = 0 ∨ j = 1 := by omega
              rcases this with rfl | rfl
              · have z0 : passZ ns nk (upd r (30 + 6 * k + 4) (nI mk ||| nI i)) t (30 + 6 * k + 5) = 0 := ej
                refine ⟨fun _ => sk M4 _ (f2.tr (FQ.mu.tr f4)) ⟨_, e4.trans e31⟩ ?_, fun z => absurd (z0.symm.trans z) (by decide)⟩
                rw [ad_f (fun z => by have := z.1; rw [Fe] at this; exact this z0)]
              · have z1 : passZ ns nk (upd r (30 + 6 * k + 4) (nI mk ||| nI i)) t (30 + 6 * k + 5) = 1 := ej
                refine ⟨fun z => absurd z1 z, fun _ => sk M4 _ (f2.tr (FQ.mu.tr f4)) ⟨_, e4.trans e31⟩ ?_⟩
                rw [ad_t ⟨by rw [Fe]; exact fun z => absurd (z1.symm.trans z) (by decide), hb⟩]
                rfl
            cases eb : adB F i with
            | none =>
              rw [eb] at tr
              exact br_t (by decide) (tr (fun b z => by cases z))
            | some b =>
              have bl := ad_lt i b eb
              rw [eb] at tr
              refine br_f (nI_pos (by omega)) (sp_bits (by omega) (sp_bits (j := b) (by omega) ?_))
              by_cases q : pcN b ≤ pcN i
              · refine br_t (nI_le q (by have := pc6_all i (by omega); omega)) (sk M2 _ f2 ⟨x, e2⟩ ?_)
                rw [ad_f (fun z => by have := z.2 b eb; omega), eb]
              · refine br_f (fun z => q ?_) (tr (fun b' z => by cases z; omega))
                rw [nI_leI (by have := pc6_all b (by omega); omega) (by have := pc6_all i (by omega); omega)] at z; exact z
        unfold wp_X10_add
        refine ⟨by decide, ?_⟩
        rw [e_mSheep, e_in, e, hR.2.1.1]
        refine b1t h1 (b2t h3 (sp_its (w := 4) (by omega) (by decide) ?_))
        rw [e, emk]
        exact ⟨2 ^ ns + 1, pm (2 ^ ns) 0 M1 (by omega) FQ.rf ⟨r (30 + 6 * k + 4), by rw [upd_self]; exact e⟩⟩
      have pc : ∀ (m i : Nat) (M1 : Mem), i + m = 2 ^ ns → TC M M1 → l_X9_add_49 0 (fun r M1 => wp_X10_add 120 (nI k) (nI t) M1 (fun r2 M2 => r = r2 ∧ INV (n + 1) M2)) (nI k) (nI t) (nI mk) (m + 1) (bO (adB F i)) (fO (adB F i)) (nI i) M1 := by
        intro m
        induction m with
        | zero =>
          intro i M1 hi t1
          have : i = 2 ^ ns := by omega
          subst this
          show B_X9_add_49 0 _ _ _ _ _ _ _ _ _
          unfold B_X9_add_49
          rw [show M1 (0 + 1 + 1) 6 = nI ns from by rw [show M1 (0 + 1 + 1) = M 2 from t1.off (by omega)]; exact e26, pw]
          have e : M1 121 = r := (t1.off (by omega)).trans er.symm
          refine br_t (nI_le (Nat.le_refl _) (by omega)) ?_
          cases eb : adB F (2 ^ ns) with
          | none =>
            refine br_t (by decide) (sp_refuse (k := 2) (by decide) (by decide) ?_)
            refine mdl _ _ (by rw [mu_ne (by decide)]; exact e) (fun M3 f3 e3 => ⟨fun b z => (by rw [eb] at z; cases z), fun _ => ?_⟩)
            exact fin_errF (h.tc t1) (e := -1000000002) (k := 2) (by decide) (by decide) rfl f3 (e3.trans e.symm)
          | some b =>
            refine br_f (nI_pos (by have := ad_lt _ b eb; omega)) ?_
            refine mdl _ _ e (fun M3 f3 e3 => ⟨fun b' z => ?_, fun z => by rw [eb] at z; cases z⟩)
            rw [eb] at z
            cases z
            exact ⟨rfl, (h.tc t1).fq f3 (e3.trans e.symm)⟩
        | succ m ih =>
          intro i M1 hi t1
          show B_X9_add_49 0 _ _ _ _ _ _ _ _ _
          unfold B_X9_add_49
          rw [show M1 (0 + 1 + 1) 6 = nI ns from by rw [show M1 (0 + 1 + 1) = M 2 from t1.off (by omega)]; exact e26, pw]
          refine br_f (nI_ge (by omega) (by omega)) ?_
          have sk : ∀ M4, TC M M4 → adB F (i + 1) = adB F i → b_X9_add_154 0 (fun r M1 => wp_X10_add 120 (nI k) (nI t) M1 (fun r2 M2 => r = r2 ∧ INV (n + 1) M2)) (l_X9_add_49 0 (fun r M1 => wp_X10_add 120 (nI k) (nI t) M1 (fun r2 M2 => r = r2 ∧ INV (n + 1) M2)) (nI k) (nI t) (nI mk) (m + 1)) (nI k) (nI t) (nI mk) (bO (adB F i)) (fO (adB F i)) (nI i) M4 := by
            intro M4 t4 ee
            unfold b_X9_add_154
            intro y ey
            rw [nI_1] at ey
            subst ey
            rw [← ee]
            exact ih (i + 1) M4 (by omega) t4
          unfold b_X9_add_87 b_X9_add_88
          rcases andm_all mk (by omega) i (by omega) with q | ⟨q0, q1, q2, q3⟩
          · refine ⟨fun z => absurd q z, fun _ => sp_bitCount (by omega) ?_⟩
            by_cases q5 : fO (adB F i) ≤ nI (pcN i)
            · refine br_t q5 ⟨fun z => absurd rfl z, fun _ => sk M1 t1 (ad_f (fun z => ?_))⟩
              cases eb : adB F i with
              | none =>
                rw [eb] at q5
                have := pc6_all i (by omega)
                have q5 : nI 7 ≤ nI (pcN i) := q5
                rw [nI_leI (by decide) (by omega)] at q5
                omega
              | some b =>
                rw [eb] at q5
                have q5 : nI (pcN b) ≤ nI (pcN i) := q5
                have bl := ad_lt i b eb
                rw [nI_leI (by have := pc6_all b (by omega); omega) (by have := pc6_all i (by omega); omega)] at q5
                have := z.2 b eb
                omega
            · refine br_f q5 ⟨fun _ => ?_, fun z => absurd z (by decide)⟩
              have hb : ∀ b, adB F i = some b → pcN i < pcN b := fun b eb => by
                rw [eb] at q5
                have bl := ad_lt i b eb
                have p1 := pc6_all b (by omega)
                have p2 := pc6_all i (by omega)
                exact Classical.byContradiction (fun z => q5 (nI_le (by omega) (by omega)))
              refine sp_think (h.tc t1) (fun M2 t2 m2 => ?_)
              rw [t1.off (b := 121) (by omega), ← er] at m2
              refine ⟨vp_in_nI (by omega) (by decide), ?_⟩
              rw [nI_clamp (by omega)]
              intro M3 e3
              have m3 : MR M3 69 (upd r (30 + 6 * k + 4) (nI mk ||| nI i)) := by rw [e3]; exact m2.sheep (w := 4) (by decide) (by omega) (by rw [hR.tn3]; omega)
              have t3 : TC M2 M3 := TC.of (by rw [e3]; exact only.mu ⟨by omega, by omega⟩) m3
              refine sp_passFor (o := 69) (by decide) m3 (hRc i (by omega)) (by omega) hk (fun p M4 hp hs4 hst m4 o4 => ?_)
              have t4 := (t1.tr t2).tr (t3.tr (TC.of o4 m4))
              have hRp := pass_RO (hRc i (by omega)) p (by omega)
              have Fv : M4 (69 + 13 + 9 + k) 5 = passZ ns nk (upd r (30 + 6 * k + 4) (nI mk ||| nI i)) t (30 + 6 * k + 5) := (m4.2.2.2.1 k (by rw [hRp.tn2]; omega) 5 (by decide)).trans (settle (hRc i (by omega)) hp (by omega) hst)
              refine ⟨vp_in_nI (by omega) (by decide), ?_⟩
              rw [show M4 (0 + 69 + 13 + 9 + k) 5 = _ from Fv]
              by_cases qF : F i
              · refine ⟨fun z => absurd z (by rw [Fe] at qF; exact qF), fun _ => sp_bitCount (by omega) ?_⟩
                unfold b_X9_add_154
                intro y ey
                rw [nI_1] at ey
                subst ey
                have nx := ih (i + 1) M4 (by omega) t4
                rw [ad_t ⟨qF, hb⟩] at nx
                exact nx
              · exact ⟨fun _ => sk M4 t4 (ad_f (fun z => qF z.1)), fun z => absurd (by rw [Fe]; exact z) qF⟩
          · have nf : adB F (i + 1) = adB F i := ad_f (fun z => by
              have hF' : F (i &&& (63 - mk)) := by
                have := z.1
                rw [Fe] at this ⊢
                rw [q3]
                exact this
              obtain ⟨b, eb, bl⟩ := ad_le i _ q1 hF'
              have := z.2 b eb
              omega)
            exact ⟨fun _ => ⟨fun z => absurd rfl z, fun _ => sk M1 t1 nf⟩, fun z => absurd z q0⟩
      exact ⟨2 ^ ns + 1, pc (2 ^ ns) 0 M (by omega) h.tc0⟩
    · exact b2f h3 (bad (fun z => h3 z.2))
  · exact b1f h1 (bad (fun z => h1 z.1))
