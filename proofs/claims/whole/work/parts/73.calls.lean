/-- sheets -/
theorem sh_kd : ∀ s, s < 4 → kdT (108 + 3 * s) = 6 ∧ kdT (109 + 3 * s) = 3 ∧ lnT (110 + 3 * s) = 40 := by decide
theorem INV.sh {n s : Nat} {M : Mem} (h : INV n M) (hs : s < 4) : ∃ z, z ≤ 40 ∧ M 130 s = nI z ∧ M (108 + 3 * s) 1 = M 129 s ∧ M (109 + 3 * s) 1 = nI z ∧ (∀ j, j < z → M (110 + 3 * s) j = M 131 (40 * s + j)) ∧ (M 129 s = 0 ∨ M 129 s = 8 ∨ M 129 s = 16 ∨ M 129 s = 32) := by
  obtain ⟨⟨z, hz, ez⟩, hb⟩ := h.2.1.2.2.2.1 s hs
  obtain ⟨a, b, c⟩ := h.1.2.2.2.2.2.1 s hs
  refine ⟨z, hz, ez, a, ?_, fun j hj => ?_, hb⟩
  · rw [show 109 + 3 * s = 108 + 3 * s + 1 from by omega, b, ez]
  · have := c j (by rw [ez, tn, nI_clamp (by omega)]; exact hj)
    rw [show 110 + 3 * s = 108 + 3 * s + 1 + 1 from by omega]
    exact this
theorem sp_hasSnow {q : Nat} {r g : Nat → Int32} {M : Mem} {Q : Int32 → Mem → Prop} (k3 : kdT q = 3) (hl : lnT (q + 1) = 40) (hM : MR M 69 r) (hs : M q 1 = nI 10) (hg : ∀ j, j < 10 → M (q + 1) j = g j) (h1 : (∀ x, x < 10 → g x = r (8 + x)) → Q 1 M) (h0 : ¬ (∀ x, x < 10 → g x = r (8 + x)) → Q 0 M) : wp_X1_hasSnowAs 69 q M Q := by
  have p : ∀ (m i : Nat), i + m = 10 → (∀ x, x < i → g x = r (8 + x)) → l_X1_hasSnowAs_2 69 Q q (m + 1) (nI i) M := by
    intro m
    induction m with
    | zero =>
      intro i hi hp
      have : i = 10 := by omega
      subst this
      show B_X1_hasSnowAs_2 69 Q _ _ _ _
      unfold B_X1_hasSnowAs_2
      exact br_t (by decide) (h1 hp)
    | succ m ih =>
      intro i hi hp
      show B_X1_hasSnowAs_2 69 Q _ _ _ _
      unfold B_X1_hasSnowAs_2
      refine br_f (fun z => nI_ge (a := i) (b := 10) (by omega) (by decide) z) ?_
      unfold wp_X3_holds
      refine ⟨k3, br_f (nI_pos (by omega)) (br_f (by rw [hs]; exact nI_ge (by omega) (by decide)) ⟨fun z => absurd z (by decide), fun _ => ?_⟩)⟩
      refine sp_get k3 hs (by omega) (by rw [hl]; decide) (by rw [hl]; decide) ⟨vp_in_nI (by omega) (by decide), ?_⟩
      rw [nI_clamp (by omega), hg i (by omega), hM.2.1 i (by omega)]
      by_cases q : g i = r (8 + i)
      · refine ⟨fun _ => ?_, fun z => absurd q z⟩
        intro x ex
        rw [nI_1] at ex
        subst ex
        refine ih (i + 1) (by omega) (fun x hx => ?_)
        by_cases e : x = i
        · rw [e]; exact q
        · exact hp x (by omega)
      · exact ⟨fun z => absurd z q, fun _ => h0 (fun z => q (z i (by omega)))⟩
  unfold wp_X1_hasSnowAs
  exact ⟨by decide, k3, 11, p 10 0 (by omega) (fun x hx => by omega)⟩
theorem sp_mSnowSo {ns nk hr s : Nat} {M : Mem} {Q : Int32 → Mem → Prop} (hR : RO (M 121) ns nk hr) (hh : hr < 10000) (hs : s < 4) (h1 : (∀ x, x < 10 → M 131 (40 * s + x) = hourZ ns nk (M 121) (8 + x)) → ∀ M', FQ M M' → M' 121 = M 121 → Q 1 M') (h0 : ¬ (∀ x, x < 10 → M 131 (40 * s + x) = hourZ ns nk (M 121) (8 + x)) → ∀ M', FQ M M' → M' 121 = M 121 → Q 0 M') : wp_X10_isSnowSo 120 (nI s) M Q := by
  unfold wp_X10_isSnowSo
  refine ⟨by decide, sp_moveAll (a := 121) (d := 123) (by omega) (by omega) (by omega) ?_⟩
  have e0 : mcp M 121 0 123 0 242 121 = M 121 := mcp_ne (by decide)
  refine sp_mHour (by rw [e0]; exact hR) (fun M1 e1 _ o1 => ?_)
  rw [e0] at e1
  have e131 : M1 131 = M 131 := (o1 131 (by unfold scrH; omega)).trans (mcp_ne (by decide))
  obtain ⟨b1, b2⟩ := back_all o1 (fun i hi => by rw [e1]; exact hour_out hR hi)
  have p : ∀ (m i : Nat) (v : Int32), i + m = 10 → ((v = 1 ∧ ∀ x, x < i → M 131 (40 * s + x) = hourZ ns nk (M 121) (8 + x)) ∨ (v = 0 ∧ ¬ ∀ x, x < 10 → M 131 (40 * s + x) = hourZ ns nk (M 121) (8 + x))) → l_X10_isSnowSo_20 120 Q (nI s) (m + 1) v (nI i) M1 := by
    intro m
    induction m with
    | zero =>
      intro i v hi hp
      have : i = 10 := by omega
      subst this
      show B_X10_isSnowSo_20 120 Q _ _ _ _ _
      unfold B_X10_isSnowSo_20
      refine br_t (by decide) (sp_moveAll (a := 123) (d := 121) (by omega) (by omega) (by omega) ?_)
      rcases hp with ⟨rfl, hp⟩ | ⟨rfl, hp⟩
      · exact ⟨by unfold isb; decide, h1 hp _ b2 b1⟩
      · exact ⟨by unfold isb; decide, h0 hp _ b2 b1⟩
    | succ m ih =>
      intro i v hi hp
      show B_X10_isSnowSo_20 120 Q _ _ _ _ _
      unfold B_X10_isSnowSo_20
      refine br_f (fun z => nI_ge (a := i) (b := 10) (by omega) (by decide) z) ?_
      unfold b_X10_isSnowSo_57 b_X10_isSnowSo_58
      rcases hp with ⟨rfl, hp⟩ | ⟨rfl, hp⟩
      · refine ⟨fun z => absurd z (by decide), fun _ => ?_⟩
        rw [show (8 : Int32) = nI 8 from rfl, show (40 : Int32) = nI 40 from rfl, pk_mul, nI_add, nI_add]
        refine ⟨vp_in_nI (by omega) (by decide), vp_in_nI (by omega) (by decide), ?_⟩
        rw [nI_clamp (by omega), nI_clamp (by omega), show M1 (120 + 1) = _ from e1, show M1 (120 + 11) = _ from e131]
        by_cases q : hourZ ns nk (M 121) (8 + i) = M 131 (40 * s + i)
        · refine ⟨fun z => absurd q z, fun _ => ?_⟩
          intro x ex
          rw [nI_1] at ex
          subst ex
          refine ih (i + 1) 1 (by omega) (Or.inl ⟨rfl, fun x hx => ?_⟩)
          by_cases e : x = i
          · rw [e]; exact q.symm
          · exact hp x (by omega)
        · refine ⟨fun _ => ?_, fun z => absurd z q⟩
          intro x ex
          rw [nI_1] at ex
          subst ex
          exact ih (i + 1) 0 (by omega) (Or.inr ⟨rfl, fun z => q (z i (by omega)).symm⟩)
      · refine ⟨fun _ => ?_, fun z => absurd rfl z⟩
        intro x ex
        rw [nI_1] at ex
        subst ex
        exact ih (i + 1) 0 (by omega) (Or.inr ⟨rfl, hp⟩)
  exact ⟨11, p 10 0 1 (by omega) (Or.inl ⟨rfl, fun x hx => by omega⟩)⟩
noncomputable def liN (P : Nat → Prop) : Nat → Nat
  | 0 => 0
  | c + 1 => @ite _ (P c) (Classical.propDecidable _) (liN P c + 2 ^ c) (liN P c)
theorem li_t {P : Nat → Prop} {c : Nat} (h : P c) : liN P (c + 1) = liN P c + 2 ^ c := @if_pos _ (Classical.propDecidable _) h Nat _ _
theorem li_f {P : Nat → Prop} {c : Nat} (h : ¬ P c) : liN P (c + 1) = liN P c := @if_neg _ (Classical.propDecidable _) h Nat _ _
theorem li_lt {P : Nat → Prop} : ∀ c, liN P c < 2 ^ c
  | 0 => by show 0 < 2 ^ 0; decide
  | c + 1 => by
    have := li_lt (P := P) c
    rw [Nat.pow_succ]
    by_cases h : P c
    · rw [li_t h]; omega
    · rw [li_f h]; omega
theorem or10_all : ∀ n, n < 10 → ∀ a, a < 2 ^ n → nI a ||| ish 1 (nI n) = nI (a + 2 ^ n) := by decide +kernel
theorem or_z (x : Int32) : x ||| 0 = x := by simp
theorem call_lies {n : Nat} {M : Mem} (h : INV n M) (a b c : Int32) : wp_X9_lies 0 a b c M (fun r M1 => wp_X10_lies 120 a b c M1 (fun r2 M2 => r = r2 ∧ INV (n + 1) M2)) := by
  obtain ⟨ns, nk, hr, hR, hh⟩ := h.ro
  have n7 := hR.2.1.2
  have n6 := hR.1.2
  have e27 : M 2 7 = nI nk := h.mr.1.2.1.trans hR.2.1.1
  have bad : ¬ (zin a 0 3 ∧ zin b 0 (nI nk - 1) ∧ zin c 0 1) → wp_X9_refuse 0 1 M (fun r M1 => wp_X10_lies 120 a b c M1 (fun r2 M2 => r = r2 ∧ INV (n + 1) M2)) := by
    intro hb
    refine sp_refuse (k := 1) (by decide) (by decide) ?_
    unfold wp_X10_lies b_X10_lies_24
    refine ⟨by decide, ?_⟩
    rw [e_mSheet, e_mSheep, e_in, mu_ne (by decide), hR.2.1.1]
    have fe := fin_err (e := -1000000001) h (k := 1) (by decide) (by decide) rfl
    by_cases h1 : zin a 0 3
    · by_cases h2 : zin b 0 (nI nk - 1)
      · exact b1t h1 (b1t h2 (b2f (fun z => hb ⟨h1, h2, z⟩) fe))
      · exact b1t h1 (b1f h2 fe)
    · exact b1f h1 fe
  unfold wp_X9_lies b_X9_lies_23
  refine ⟨by decide, ?_⟩
  rw [e_isSheet, e_isSheep, e_isWithin, e27]
  by_cases h1 : zin a 0 3
  · refine b1t h1 ?_
    by_cases h2 : zin b 0 (nI nk - 1)
    · refine b1t h2 ?_
      by_cases h3 : zin c 0 1
      · refine b2t h3 ?_
        obtain ⟨s, hs, rfl⟩ := (zin_nI (n := 3) (by decide)).mp h1
        obtain ⟨k, hk, rfl⟩ := (zin_cnt (by omega)).mp h2
        obtain ⟨k6, k3, l40⟩ := sh_kd s (by omega)
        obtain ⟨z, hz, ez, eb, es, ej, -⟩ := h.sh (s := s) (by omega)
        obtain ⟨r, er⟩ : ∃ r, r = M 121 := ⟨_, rfl⟩
        rw [← er] at hR
        refine ⟨vp_in_nI (by omega) (by decide), ?_⟩
        rw [nI_clamp (by omega)]
        intro q eq
        have eq : q = 108 + 3 * s := by omega
        subst eq
        unfold wp_X6_isMissing b_X9_lies_58
        refine ⟨k6, ?_⟩
        dsimp only
        rw [eb, show M (108 + 3 * s + 1) 1 = nI z from by rw [show 108 + 3 * s + 1 = 109 + 3 * s from by omega]; exact es]
        -- refused: NONE
        have none : (M 129 s = 0 ∨ ¬ z = 10) → wp_X9_refuse 0 2 M (fun r M1 => wp_X10_lies 120 (nI s) (nI k) c M1 (fun r2 M2 => r = r2 ∧ INV (n + 1) M2)) := by
          intro hb
          refine sp_refuse (k := 2) (by decide) (by decide) ?_
          unfold wp_X10_lies b_X10_lies_51
          refine ⟨by decide, ?_⟩
          rw [e_mSheet, e_mSheep, e_in, mu_ne (by decide), ← er, hR.2.1.1]
          refine b1t h1 (b1t h2 (b2t h3 ⟨vp_in_nI (by omega) (by decide), ?_⟩))
          have fe := fin_err (e := -1000000002) h (k := 2) (by decide) (by decide) rfl
          rw [nI_clamp (by omega), show (mu M 107 2 (M 107 2 + 1)) (120 + 9) = M 129 from mu_ne (by decide), show (mu M 107 2 (M 107 2 + 1)) (120 + 10) = M 130 from mu_ne (by decide), ez]
          by_cases g : M 129 s = 0
          · exact ⟨fun _ => fe, fun z => absurd g z⟩
          · refine ⟨fun z => absurd z g, fun _ => ⟨vp_in_nI (by omega) (by decide), fun z10 => ?_, fun _ => fe⟩⟩
            rw [show (10 : Int32) = nI 10 from rfl, nI_eq (by omega) (by decide)] at z10
            rcases hb with q | q
            · exact absurd q g
            · exact absurd z10 q
        by_cases g : M 129 s = 0
        · exact ⟨fun z => absurd g z, fun _ => ⟨fun _ => none (Or.inl g), fun z => absurd z (by decide)⟩⟩
        refine ⟨fun _ => ⟨fun z => absurd rfl z, fun _ => ?_⟩, fun z => absurd z g⟩
        by_cases g10 : z = 10
        · subst g10
          refine ⟨fun _ => ?_, fun z => absurd rfl z⟩
          have hRc : ∀ i, i < 10 → RO (upd r (30 + 6 * k + 2) (nI i)) ns nk hr := fun i hi => hR.sheep hk (by decide) ⟨i, (show i ≤ 9 by omega), rfl⟩
          obtain ⟨P, eP⟩ : ∃ P : Nat → Prop, P = fun i => ∀ x, x < 10 → M 131 (40 * s + x) = hourZ ns nk (upd r (30 + 6 * k + 2) (nI i)) (8 + x) := ⟨_, rfl⟩
          have Pe : ∀ i, P i = ∀ x, x < 10 → M 131 (40 * s + x) = hourZ ns nk (upd r (30 + 6 * k + 2) (nI i)) (8 + x) := fun i => by rw [eP]
          have pc : ∀ (m i : Nat) (M1 : Mem), i + m = 10 → TC M M1 → l_X9_lies_70 0 (fun r M1 => wp_X10_lies 120 (nI s) (nI k) c M1 (fun r2 M2 => r = r2 ∧ INV (n + 1) M2)) (nI k) c (108 + 3 * s) (m + 1) (nI (liN P i)) (nI i) M1 := by
            intro m
            induction m with
            | zero =>
              intro i M1 hi t1
              have : i = 10 := by omega
              subst this
              show B_X9_lies_70 0 _ _ _ _ _ _ _ _
              unfold B_X9_lies_70
              have e : M1 121 = r := (t1.off (by omega)).trans er.symm
              have l10 := li_lt (P := P) 10
              have mdl : ∀ v : Int32, v = (if c = 0 then nI (liN P 10) else nI (pcN (liN P 10))) → wp_X10_lies 120 (nI s) (nI k) c M1 (fun r2 M2 => v = r2 ∧ INV (n + 1) M2) := by
                intro v hv
                have pm : ∀ (m i : Nat) (M2 : Mem), i + m = 10 → FQ M1 M2 → (∃ x, M2 121 = upd r (30 + 6 * k + 2) x) → l_X10_lies_72 120 (fun r2 M2 => v = r2 ∧ INV (n + 1) M2) (nI s) (nI k) c (r (30 + 6 * k + 2)) (m + 1) (nI (liN P i)) (nI i) M2 := by
                  intro m
                  induction m with
                  | zero =>
                    intro i M2 hi f2 ⟨x, e2⟩
                    have : i = 10 := by omega
                    subst this
                    show B_X10_lies_72 120 _ _ _ _ _ _ _ _ _
                    unfold B_X10_lies_72
                    refine br_t (by decide) (sp_gets (w := 2) (by omega) (by decide) ?_)
                    have e31 : (mu M2 121 (30 + 6 * k + 2) (r (30 + 6 * k + 2))) 121 = M1 121 := by rw [mu_same, e2, e, upd_upd, upd_self]
                    have f3 : FQ M1 (mu M2 121 (30 + 6 * k + 2) (r (30 + 6 * k + 2))) := f2.tr FQ.mu
                    by_cases q : c = 0
                    · rw [if_pos q] at hv
                      exact ⟨fun z => absurd q z, fun _ => ⟨hv, (h.tc t1).fq f3 e31⟩⟩
                    · rw [if_neg q] at hv
                      exact ⟨fun _ => sp_bits (by omega) ⟨hv, (h.tc t1).fq f3 e31⟩, fun z => absurd z q⟩
                  | succ m ih =>
                    intro i M2 hi f2 ⟨x, e2⟩
                    show B_X10_lies_72 120 _ _ _ _ _ _ _ _ _
                    unfold B_X10_lies_72
                    refine br_f (fun z => nI_ge (a := i) (b := 10) (by omega) (by decide) z) (sp_gets (w := 2) (by omega) (by decide) ?_)
                    have e31 : (mu M2 121 (30 + 6 * k + 2) (nI i)) 121 = upd r (30 + 6 * k + 2) (nI i) := by rw [mu_same, e2, upd_upd]
                    have f3 : FQ M1 (mu M2 121 (30 + 6 * k + 2) (nI i)) := f2.tr FQ.mu
                    have e131 : (mu M2 121 (30 + 6 * k + 2) (nI i)) 131 = M 131 := by rw [f3.1 131 (by unfold scrQ; omega)]; exact t1.off (by omega)
                    have li := li_lt (P := P) i
                    unfold b_X10_lies_105
                    refine sp_mSnowSo (by rw [e31]; exact hRc i (by omega)) (by omega) (by omega) (fun q M4 f4 e4 => ?_) (fun q M4 f4 e4 => ?_)
                    · rw [e131, e31] at q
                      refine ⟨fun z => absurd z (by decide), fun _ => ?_⟩
                      intro y ey x ex
                      rw [or10_all i (by omega) _ li] at ey
                      rw [nI_1] at ex
                      subst ey ex
                      have nx := ih (i + 1) M4 (by omega) (f3.tr f4) ⟨_, e4.trans e31⟩
                      rw [li_t (by rw [Pe]; exact q)] at nx
                      exact nx
                    · rw [e131, e31] at q
                      refine ⟨fun _ => ?_, fun z => absurd rfl z⟩
                      intro y ey x ex
                      rw [or_z] at ey
                      rw [nI_1] at ex
                      subst ey ex
                      have nx := ih (i + 1) M4 (by omega) (f3.tr f4) ⟨_, e4.trans e31⟩
                      rw [li_f (by rw [Pe]; exact q)] at nx
                      exact nx
                unfold wp_X10_lies
                refine ⟨by decide, ?_⟩
                rw [e_mSheet, e_mSheep, e_in, e, hR.2.1.1]
                refine b1t h1 (b1t h2 (b2t h3 ⟨vp_in_nI (by omega) (by decide), ?_⟩))
                rw [nI_clamp (by omega), show M1 (120 + 9) = M 129 from t1.off (by omega), show M1 (120 + 10) = M 130 from t1.off (by omega), ez]
                refine ⟨fun z => absurd z g, fun _ => ⟨vp_in_nI (by omega) (by decide), fun _ => sp_its (w := 2) (by omega) (by decide) ?_, fun z => absurd rfl z⟩⟩
                rw [e]
                exact ⟨11, pm 10 0 M1 (by omega) FQ.rf ⟨r (30 + 6 * k + 2), by rw [upd_self]; exact e⟩⟩
              refine br_t (by decide) ?_
              by_cases q : c = 0
              · exact ⟨fun z => absurd q z, fun _ => mdl _ (by rw [if_pos q])⟩
              · exact ⟨fun _ => sp_bitCount (by omega) (mdl _ (by rw [if_neg q])), fun z => absurd z q⟩
            | succ m ih =>
              intro i M1 hi t1
              show B_X9_lies_70 0 _ _ _ _ _ _ _ _
              unfold B_X9_lies_70
              refine br_f (fun z => nI_ge (a := i) (b := 10) (by omega) (by decide) z) ?_
              refine sp_think (h.tc t1) (fun M2 t2 m2 => ?_)
              rw [t1.off (b := 121) (by omega), ← er] at m2
              refine ⟨vp_in_nI (by omega) (by decide), ?_⟩
              rw [nI_clamp (by omega)]
              intro M3 e3
              have m3 : MR M3 69 (upd r (30 + 6 * k + 2) (nI i)) := by rw [e3]; exact m2.sheep (w := 2) (by decide) (by omega) (by rw [hR.tn3]; omega)
              have t3 : TC M2 M3 := TC.of (by rw [e3]; exact only.mu ⟨by omega, by omega⟩) m3
              refine sp_passHours (o := 69) (n := 1) (by decide) m3 (hRc i (by omega)) (by omega) (fun M4 m4 _ o4 => ?_)
              have t4 := (t1.tr t2).tr (t3.tr (TC.of o4 m4))
              have li := li_lt (P := P) i
              unfold b_X9_lies_127
              refine sp_hasSnow (g := fun x => M 131 (40 * s + x)) (by rw [show 108 + 3 * s + 1 = 109 + 3 * s from by omega]; exact k3) (by rw [show 108 + 3 * s + 1 + 1 = 110 + 3 * s from by omega]; exact l40) m4 (by rw [show 108 + 3 * s + 1 = 109 + 3 * s from by omega, t4.off (by omega)]; exact es) (fun j hj => by rw [show 108 + 3 * s + 1 + 1 = 110 + 3 * s from by omega, t4.off (by omega)]; exact ej j hj) (fun q => ?_) (fun q => ?_)
              · refine ⟨fun z => absurd z (by decide), fun _ => ?_⟩
                intro y ey x ex
                rw [or10_all i (by omega) _ li] at ey
                rw [nI_1] at ex
                subst ey ex
                have nx := ih (i + 1) M4 (by omega) t4
                rw [li_t (by rw [Pe]; exact q)] at nx
                exact nx
              · refine ⟨fun _ => ?_, fun z => absurd rfl z⟩
                intro x ex
                rw [nI_1] at ex
                subst ex
                have nx := ih (i + 1) M4 (by omega) t4
                rw [li_f (by rw [Pe]; exact q)] at nx
                exact nx
          exact ⟨11, pc 10 0 M (by omega) h.tc0⟩
        · refine ⟨fun z10 => ?_, fun _ => none (Or.inr g10)⟩
          rw [show (10 : Int32) = nI 10 from rfl, nI_eq (by omega) (by decide)] at z10
          exact absurd z10 g10
      · exact b2f h3 (bad (fun z => h3 z.2.2))
    · exact b1f h2 (bad (fun z => h2 z.2.1))
  · exact b1f h1 (bad (fun z => h1 z.1))
