/-- ODDS -/
noncomputable def odZ (f : Nat → Nat) : Nat → Nat
  | 0 => 0
  | c + 1 => odZ f c + f c
theorem od_le {f : Nat → Nat} (h : ∀ c, c < 10 → f c ≤ 1) : ∀ c, c ≤ 10 → odZ f c ≤ c
  | 0, _ => Nat.le_refl _
  | c + 1, hc => by
    have := od_le h c (by omega)
    have := h c (by omega)
    show odZ f c + f c ≤ c + 1
    omega
def pfZ (v0 v2 : Int32) : Nat → Int32
  | 0 => v2
  | 1 => v2
  | d + 2 => if irm v0 (nI (d + 2)) = 0 ∧ irm 10 (nI (d + 2)) = 0 then v2 / nI (d + 2) else pfZ v0 v2 (d + 1)
theorem sp_pf {v0 v2 : Int32} {M : Mem} {Q : Int32 → Mem → Prop} : ∀ d, d ≤ 10 → Q (pfZ v0 v2 d) M → l_X9_partOfFraction_14 Q v0 v2 (d + 1) (nI d) M
  | 0, _, hQ => by
    show B_X9_partOfFraction_14 Q _ _ _ _ _
    unfold B_X9_partOfFraction_14
    exact br_t (by decide) hQ
  | 1, _, hQ => by
    show B_X9_partOfFraction_14 Q _ _ _ _ _
    unfold B_X9_partOfFraction_14
    exact br_t (by decide) hQ
  | d + 2, hd, hQ => by
    show B_X9_partOfFraction_14 Q _ _ _ _ _
    unfold B_X9_partOfFraction_14
    have nz : ¬ nI (d + 2) = 0 := fun z => by rw [show (0 : Int32) = nI 0 from rfl, nI_eq (by omega) (by decide)] at z; omega
    refine br_f (fun z => nI_nlt (a := d + 2) (b := 2) (by omega) (by omega) z) ⟨nz, ?_⟩
    unfold pfZ at hQ
    have nx : ¬ (irm v0 (nI (d + 2)) = 0 ∧ irm 10 (nI (d + 2)) = 0) → b_X9_partOfFraction_36 Q (l_X9_partOfFraction_14 Q v0 v2 (d + 2)) v0 v2 (nI (d + 2)) M := by
      intro q
      rw [if_neg q] at hQ
      unfold b_X9_partOfFraction_36
      intro x ex
      have ex : x = nI (d + 1) := by
        rw [ex, show (-1 : Int32) = 0 - 1 from rfl]
        have := nI_pred (d + 1)
        rw [← this]
        exact (show ∀ d, d ≤ 8 → nI (d + 2) + (0 - 1) = nI (d + 1 + 1) - 1 from by decide) d (by omega)
      subst ex
      exact sp_pf (d + 1) (by omega) hQ
    by_cases q1 : irm v0 (nI (d + 2)) = 0
    · refine ⟨fun z => absurd q1 z, fun _ => ⟨nz, ?_⟩⟩
      by_cases q2 : irm 10 (nI (d + 2)) = 0
      · rw [if_pos ⟨q1, q2⟩] at hQ
        exact ⟨fun z => absurd q2 z, fun _ => ⟨nz, hQ⟩⟩
      · exact ⟨fun _ => nx (fun z => q2 z.2), fun z => absurd z q2⟩
    · exact ⟨fun _ => nx (fun z => q1 z.1), fun z => absurd z q1⟩
def dvT : Nat → Int32 → Int32 → Option Int32
  | 0, _, _ => none
  | f + 1, x, y => if y = 0 then some x else dvT f y (irm x y)
theorem sp_dv {g : Int32} {M : Mem} {Q : Int32 → Mem → Prop} (hQ : Q g M) : ∀ f x y, dvT f x y = some g → l_X10_divisor_4 Q f x y M
  | 0, _, _, h => by exact absurd h (by simp [dvT])
  | f + 1, x, y, h => by
    show B_X10_divisor_4 Q _ _ _ _
    unfold B_X10_divisor_4
    unfold dvT at h
    by_cases q : y = 0
    · rw [if_pos q] at h
      cases h
      exact ⟨fun _ => hQ, fun z => absurd q z⟩
    · rw [if_neg q] at h
      refine ⟨fun z => absurd z q, fun _ => ⟨q, ?_⟩⟩
      intro z ez
      subst ez
      exact sp_dv hQ f _ _ h
def gdN (j : Nat) : Nat := Nat.gcd j 10
theorem gd_all : ∀ j, j ≤ 10 → dvT 9 (nI j) 10 = some (nI (gdN j)) ∧ ¬ nI (gdN j) = 0 ∧ pfZ (nI j) (nI j) 10 = nI j / nI (gdN j) ∧ pfZ (nI j) 10 10 = 10 / nI (gdN j) := by decide +kernel
theorem call_odds {n : Nat} {M : Mem} (h : INV n M) (a b c : Int32) : wp_X9_odds 0 a b c M (fun r M1 => wp_X10_odds 120 a b c M1 (fun r2 M2 => r = r2 ∧ INV (n + 1) M2)) := by
  obtain ⟨ns, nk, hr, hR, hh⟩ := h.ro
  have n7 := hR.2.1.2
  have n6 := hR.1.2
  have e27 : M 2 7 = nI nk := h.mr.1.2.1.trans hR.2.1.1
  have bad : ¬ (zin a 0 (nI nk - 1) ∧ zin b 0 60 ∧ zin c 0 1) → wp_X9_refuse 0 1 M (fun r M1 => wp_X10_odds 120 a b c M1 (fun r2 M2 => r = r2 ∧ INV (n + 1) M2)) := by
    intro hb
    refine sp_refuse (k := 1) (by decide) (by decide) ?_
    unfold wp_X10_odds b_X10_odds_27
    refine ⟨by decide, ?_⟩
    rw [e_mSheep, e_in, e_in, mu_ne (by decide), hR.2.1.1]
    have fe := fin_err (e := -1000000001) h (k := 1) (by decide) (by decide) rfl
    by_cases h1 : zin a 0 (nI nk - 1)
    · by_cases h2 : zin b 0 60
      · exact b1t h1 (b1t h2 (b2f (fun z => hb ⟨h1, h2, z⟩) fe))
      · exact b1t h1 (b1f h2 fe)
    · exact b1f h1 fe
  unfold wp_X9_odds b_X9_odds_25
  refine ⟨by decide, ?_⟩
  rw [e_isSheep, e_isWithin, e_isWithin, e27]
  by_cases h1 : zin a 0 (nI nk - 1)
  · refine b1t h1 ?_
    by_cases h2 : zin b 0 60
    · refine b1t h2 ?_
      by_cases h3 : zin c 0 1
      · refine b2t h3 ?_
        obtain ⟨k, hk, rfl⟩ := (zin_cnt (by omega)).mp h1
        obtain ⟨t, ht, rfl⟩ := (zin_nI (n := 60) (by decide)).mp h2
        obtain ⟨r, er⟩ : ∃ r, r = M 121 := ⟨_, rfl⟩
        rw [← er] at hR
        have hRc : ∀ i, i < 10 → RO (upd r (30 + 6 * k + 2) (nI i)) ns nk hr := fun i hi => hR.sheep hk (by decide) ⟨i, (show i ≤ 9 by omega), rfl⟩
        obtain ⟨f, ef⟩ : ∃ f : Nat → Nat, f = fun i => tn (passZ ns nk (upd r (30 + 6 * k + 2) (nI i)) t (30 + 6 * k + 5)) := ⟨_, rfl⟩
        have fe : ∀ i, i < 10 → passZ ns nk (upd r (30 + 6 * k + 2) (nI i)) t (30 + 6 * k + 5) = nI (f i) ∧ f i ≤ 1 := fun i hi => by
          obtain ⟨j, hj, ej⟩ := (pass_RO (hRc i hi) t (by omega)).fld (k := k) (w := 5) hk (by decide)
          have hj : j ≤ 1 := hj
          rw [ef]
          dsimp only
          rw [ej, tn, nI_clamp (by omega)]
          exact ⟨rfl, hj⟩
        have j10 : odZ f 10 ≤ 10 := od_le (fun c hc => (fe c hc).2) 10 (by omega)
        obtain ⟨g1, g2, g3, g4⟩ := gd_all _ j10
        have pc : ∀ (m i : Nat) (M1 : Mem), i + m = 10 → TC M M1 → l_X9_odds_37 0 (fun r M1 => wp_X10_odds 120 (nI k) (nI t) c M1 (fun r2 M2 => r = r2 ∧ INV (n + 1) M2)) (nI k) (nI t) c (m + 1) (nI (odZ f i)) (nI i) M1 := by
          intro m
          induction m with
          | zero =>
            intro i M1 hi t1
            have : i = 10 := by omega
            subst this
            show B_X9_odds_37 0 _ _ _ _ _ _ _ _
            unfold B_X9_odds_37
            have e : M1 121 = r := (t1.off (by omega)).trans er.symm
            have mdl : ∀ v : Int32, v = (if c = 0 then nI (odZ f 10) / nI (gdN (odZ f 10)) else 10 / nI (gdN (odZ f 10))) → wp_X10_odds 120 (nI k) (nI t) c M1 (fun r2 M2 => v = r2 ∧ INV (n + 1) M2) := by
              intro v hv
              have pm : ∀ (m i : Nat) (M2 : Mem), i + m = 10 → FQ M1 M2 → (∃ x, M2 121 = upd r (30 + 6 * k + 2) x) → l_X10_odds_48 120 (fun r2 M2 => v = r2 ∧ INV (n + 1) M2) (nI k) (nI t) c (r (30 + 6 * k + 2)) (m + 1) (nI (odZ f i)) (nI i) M2 := by
                intro m
                induction m with
                | zero =>
                  intro i M2 hi f2 ⟨x, e2⟩
                  have : i = 10 := by omega
                  subst this
                  show B_X10_odds_48 120 _ _ _ _ _ _ _ _ _
                  unfold B_X10_odds_48
                  refine br_t (by decide) (sp_gets (w := 2) (by omega) (by decide) ?_)
                  have e31 : (mu M2 121 (30 + 6 * k + 2) (r (30 + 6 * k + 2))) 121 = M1 121 := by rw [mu_same, e2, e, upd_upd, upd_self]
                  have f3 : FQ M1 (mu M2 121 (30 + 6 * k + 2) (r (30 + 6 * k + 2))) := f2.tr FQ.mu
                  unfold wp_X10_divisor
                  refine ⟨9, sp_dv ?_ 9 _ _ g1⟩
                  by_cases q : c = 0
                  · rw [if_pos q] at hv
                    exact ⟨fun z => absurd q z, fun _ => ⟨g2, hv, (h.tc t1).fq f3 e31⟩⟩
                  · rw [if_neg q] at hv
                    exact ⟨fun _ => ⟨g2, hv, (h.tc t1).fq f3 e31⟩, fun z => absurd z q⟩
                | succ m ih =>
                  intro i M2 hi f2 ⟨x, e2⟩
                  show B_X10_odds_48 120 _ _ _ _ _ _ _ _ _
                  unfold B_X10_odds_48
                  refine br_f (fun z => nI_ge (a := i) (b := 10) (by omega) (by decide) z) (sp_gets (w := 2) (by omega) (by decide) ?_)
                  have e31 : (mu M2 121 (30 + 6 * k + 2) (nI i)) 121 = upd r (30 + 6 * k + 2) (nI i) := by rw [mu_same, e2, upd_upd]
                  refine sp_fb (by rw [e31]; exact hRc i (by omega)) (by omega) (fun M4 e4 f4 => ?_)
                  rw [e31, fs_is (pass_RO (hRc i (by omega)) t (by omega)) hk, (fe i (by omega)).1, nI_add]
                  intro y ey z ez
                  rw [nI_1] at ez
                  subst ey ez
                  exact ih (i + 1) M4 (by omega) (f2.tr (FQ.mu.tr f4)) ⟨_, e4.trans e31⟩
              unfold wp_X10_odds
              refine ⟨by decide, ?_⟩
              rw [e_mSheep, e_in, e_in, e, hR.2.1.1]
              refine b1t h1 (b1t h2 (b2t h3 (sp_its (w := 2) (by omega) (by decide) ?_)))
              rw [e]
              exact ⟨11, pm 10 0 M1 (by omega) FQ.rf ⟨r (30 + 6 * k + 2), by rw [upd_self]; exact e⟩⟩
            refine br_t (by decide) ?_
            unfold wp_X9_partOfFraction b_X9_partOfFraction_10
            by_cases q : c = 0
            · exact ⟨fun z => absurd q z, fun _ => ⟨11, sp_pf 10 (by omega) (mdl _ (by rw [if_pos q]; exact g3))⟩⟩
            · exact ⟨fun _ => ⟨11, sp_pf 10 (by omega) (mdl _ (by rw [if_neg q]; exact g4))⟩, fun z => absurd z q⟩
          | succ m ih =>
            intro i M1 hi t1
            show B_X9_odds_37 0 _ _ _ _ _ _ _ _
            unfold B_X9_odds_37
            refine br_f (fun z => nI_ge (a := i) (b := 10) (by omega) (by decide) z) ?_
            refine sp_think (h.tc t1) (fun M2 t2 m2 => ?_)
            rw [t1.off (b := 121) (by omega), ← er] at m2
            refine ⟨vp_in_nI (by omega) (by decide), ?_⟩
            rw [nI_clamp (by omega)]
            intro M3 e3
            have m3 : MR M3 69 (upd r (30 + 6 * k + 2) (nI i)) := by rw [e3]; exact m2.sheep (w := 2) (by decide) (by omega) (by rw [hR.tn3]; omega)
            have t3 : TC M2 M3 := TC.of (by rw [e3]; exact only.mu ⟨by omega, by omega⟩) m3
            refine sp_passFor (o := 69) (by decide) m3 (hRc i (by omega)) (by omega) hk (fun p M4 hp hs4 hst m4 o4 => ?_)
            have t4 := (t1.tr t2).tr (t3.tr (TC.of o4 m4))
            have hRp := pass_RO (hRc i (by omega)) p (by omega)
            have F : M4 (69 + 13 + 9 + k) 5 = nI (f i) := ((m4.2.2.2.1 k (by rw [hRp.tn2]; omega) 5 (by decide)).trans (settle (hRc i (by omega)) hp (by omega) hst)).trans (fe i (by omega)).1
            refine ⟨vp_in_nI (by omega) (by decide), ?_⟩
            rw [show M4 (0 + 69 + 13 + 9 + k) 5 = _ from F]
            have nx := ih (i + 1) M4 (by omega) t4
            have en : odZ f (i + 1) = odZ f i + f i := rfl
            have f1 := (fe i (by omega)).2
            unfold b_X9_odds_90
            by_cases q : f i = 0
            · rw [q]
              refine ⟨fun _ => ?_, fun z => absurd rfl z⟩
              intro x ex
              rw [nI_1] at ex
              subst ex
              rw [en, q] at nx
              exact nx
            · have q1 : f i = 1 := by omega
              rw [q1]
              refine ⟨fun z => absurd z (by decide), fun _ => ?_⟩
              intro y ey x ex
              rw [nI_1] at ex ey
              subst ex ey
              rw [en, q1] at nx
              exact nx
        exact ⟨11, pc 10 0 M (by omega) h.tc0⟩
      · exact b2f h3 (bad (fun z => h3 z.2.2))
    · exact b1f h2 (bad (fun z => h2 z.2.1))
  · exact b1f h1 (bad (fun z => h1 z.1))
/-- MISSED -/
def tkZ (r : Nat → Int32) (s : Nat) : Nat → Nat → Int32
  | 0 => r
  | k + 1 => upd (tkZ r s k) (30 + 6 * k + 4) (tkZ r s k (30 + 6 * k + 4) &&& (ish 1 (nI s) ^^^ (-1)))
theorem tk_all : ∀ s, s < 6 → ∀ j, j ≤ 63 → zin (nI j &&& (ish 1 (nI s) ^^^ (-1))) 0 63 := by decide +kernel
theorem tk_RO {r : Nat → Int32} {ns nk hr s : Nat} (hR : RO r ns nk hr) (hs : s < 6) : ∀ k, k ≤ nk → RO (tkZ r s k) ns nk hr
  | 0, _ => hR
  | k + 1, hk => by
    have i := tk_RO hR hs k (by omega)
    obtain ⟨j, hj, ej⟩ := i.fld (k := k) (w := 4) (by omega) (by decide)
    have hj : j ≤ 63 := hj
    refine i.sheep (by omega) (by decide) ?_
    rw [ej]
    exact (zin_nI (n := 63) (by decide)).mp (tk_all s hs j hj)
theorem tk_out {r : Nat → Int32} {s i : Nat} (hi : 242 ≤ i) : ∀ k, k ≤ 7 → tkZ r s k i = r i
  | 0, _ => rfl
  | k + 1, hk => (upd_off (by omega)).trans (tk_out hi k (by omega))
theorem sp_take {ns nk hr s : Nat} {r : Nat → Int32} {M : Mem} {Q : Mem → Prop} (hM : MR M 69 r) (hR : RO r ns nk hr) (hs : s < 6) (hQ : ∀ M', MR M' 69 (tkZ r s nk) → only (mo 69) M M' → Q M') : wp_X1_takeFromMarks 69 (nI s) M Q := by
  have n7 := hR.2.1.2
  have n6 := hR.1.2
  have p : ∀ (m i : Nat) (M1 : Mem), i + m = nk → MR M1 69 (tkZ r s i) → only (mo 69) M M1 → l_X1_takeFromMarks_2 69 Q (nI s) (m + 1) (nI i) M1 := by
    intro m
    induction m with
    | zero =>
      intro i M1 hi m1 o1
      have : i = nk := by omega
      subst this
      show B_X1_takeFromMarks_2 69 Q _ _ _ _
      unfold B_X1_takeFromMarks_2
      rw [show M1 69 7 = nI i from m1.1.2.1.trans (tk_RO hR hs i (by omega)).2.1.1]
      exact br_t (nI_le (Nat.le_refl _) (by omega)) (hQ M1 m1 o1)
    | succ m ih =>
      intro i M1 hi m1 o1
      show B_X1_takeFromMarks_2 69 Q _ _ _ _
      unfold B_X1_takeFromMarks_2
      have hRi := tk_RO hR hs i (by omega)
      rw [show M1 69 7 = nI nk from m1.1.2.1.trans hRi.2.1.1]
      refine br_f (nI_ge (by omega) (by omega)) ⟨vp_in_nI (by omega) (by decide), ?_⟩
      rw [nI_clamp (by omega), m1.2.2.2.1 i (by rw [hRi.tn2]; omega) 4 (by decide)]
      intro M2 e2 x ex
      rw [nI_1] at ex
      subst ex
      refine ih (i + 1) M2 (by omega) ?_ (o1.tr (by rw [e2]; exact only.mu ⟨by omega, by omega⟩))
      rw [e2]
      exact m1.sheep (w := 4) (by decide) (by omega) (by rw [hRi.tn3]; omega)
  unfold wp_X1_takeFromMarks
  exact ⟨by decide, nk + 1, p nk 0 M (by omega) hM only.rf⟩
def msZ (f : Nat → Int32) : Nat → Int32 × Int32
  | 0 => (0, 8)
  | s + 1 => if (msZ f s).2 ≤ f s then msZ f s else (nI s, f s)
theorem ms_t {f : Nat → Int32} {c : Nat} (h : (msZ f c).2 ≤ f c) : msZ f (c + 1) = msZ f c := if_pos h
theorem ms_f {f : Nat → Int32} {c : Nat} (h : ¬ (msZ f c).2 ≤ f c) : msZ f (c + 1) = (nI c, f c) := if_neg h
theorem call_missed {n : Nat} {M : Mem} (h : INV n M) (a c : Int32) : wp_X9_missed 0 a c M (fun r M1 => wp_X10_missed 120 a c M1 (fun r2 M2 => r = r2 ∧ INV (n + 1) M2)) := by
  obtain ⟨ns, nk, hr, hR, hh⟩ := h.ro
  have n7 := hR.2.1.2
  have n6 := hR.1.2
  have e26 : M (0 + 1 + 1) 6 = nI ns := h.mr.1.2.2.trans hR.1.1
  have bad : ¬ (zin a 0 60 ∧ zin c 0 1) → wp_X9_refuse 0 1 M (fun r M1 => wp_X10_missed 120 a c M1 (fun r2 M2 => r = r2 ∧ INV (n + 1) M2)) := by
    intro hb
    refine sp_refuse (k := 1) (by decide) (by decide) ?_
    unfold wp_X10_missed b_X10_missed_19
    refine ⟨by decide, ?_⟩
    rw [e_in, e_in]
    have fe := fin_err (e := -1000000001) h (k := 1) (by decide) (by decide) rfl
    by_cases h1 : zin a 0 60
    · exact b1t h1 (b2f (fun z => hb ⟨h1, z⟩) fe)
    · exact b1f h1 fe
  unfold wp_X9_missed b_X9_missed_17
  refine ⟨by decide, ?_⟩
  rw [e_isWithin, e_isWithin, e26]
  by_cases h1 : zin a 0 60
  · refine b1t h1 ?_
    by_cases h3 : zin c 0 1
    · refine b2t h3 ?_
      obtain ⟨t, ht, rfl⟩ := (zin_nI (n := 60) (by decide)).mp h1
      by_cases hns : ns = 0
      · subst hns
        refine ⟨fun z => absurd rfl z, fun _ => sp_refuse (k := 2) (by decide) (by decide) ?_⟩
        unfold wp_X10_missed
        refine ⟨by decide, ?_⟩
        rw [e_in, e_in]
        refine b1t h1 (b2t h3 ?_)
        rw [show (mu M 107 2 (M 107 2 + 1)) (120 + 1) = M 121 from mu_ne (by decide), hR.1.1]
        exact ⟨fun z => absurd rfl z, fun _ => fin_err (e := -1000000002) h (k := 2) (by decide) (by decide) rfl⟩
      · have nz : ¬ nI ns = 0 := fun z => by rw [show (0 : Int32) = nI 0 from rfl, nI_eq (by omega) (by decide)] at z; omega
        refine ⟨fun _ => ?_, fun z => absurd z nz⟩
        obtain ⟨r, er⟩ : ∃ r, r = M 121 := ⟨_, rfl⟩
        rw [← er] at hR
        have hRc : ∀ i, i < ns → RO (tkZ r i nk) ns nk hr := fun i hi => tk_RO hR (by omega) nk (by omega)
        obtain ⟨f, ef⟩ : ∃ f : Nat → Int32, f = fun i => nI (cntZ ns nk (tkZ r i nk) t) := ⟨_, rfl⟩
        have fe : ∀ i, nI (cntZ ns nk (tkZ r i nk) t) = f i := fun i => by rw [ef]
        have pc : ∀ (m i : Nat) (M1 : Mem), i + m = ns → TC M M1 → l_X9_missed_51 0 (fun r M1 => wp_X10_missed 120 (nI t) c M1 (fun r2 M2 => r = r2 ∧ INV (n + 1) M2)) (nI t) c (m + 1) (msZ f i).1 (msZ f i).2 (nI i) M1 := by
          intro m
          induction m with
          | zero =>
            intro i M1 hi t1
            have : i = ns := by omega
            subst this
            show B_X9_missed_51 0 _ _ _ _ _ _ _ _
            unfold B_X9_missed_51
            have e : M1 121 = r := (t1.off (by omega)).trans er.symm
            have mdl : ∀ v : Int32, v = (if c = 0 then (msZ f i).1 else (msZ f i).2) → wp_X10_missed 120 (nI t) c M1 (fun r2 M2 => v = r2 ∧ INV (n + 1) M2) := by
              intro v hv
              obtain ⟨Mt, eMt⟩ : ∃ Mt, Mt = mcp M1 121 0 123 0 242 := ⟨_, rfl⟩
              have et : Mt 121 = r := by rw [eMt]; exact (mcp_ne (by decide)).trans e
              have e3 : ∀ j, j < 242 → Mt 123 j = r j := fun j hj => by
                rw [eMt, mcp_same]
                unfold va_cpy
                rw [if_pos (by omega), e]
                congr 1
                omega
              have ft : FQ M1 Mt := by rw [eMt]; exact FQ.to
              have pm : ∀ (m j : Nat) (M2 : Mem), j + m = i → only scrH Mt M2 → M2 121 = r → l_X10_missed_63 120 (fun r2 M2 => v = r2 ∧ INV (n + 1) M2) (nI t) c (m + 1) (msZ f j).1 (msZ f j).2 (nI j) M2 := by
                intro m
                induction m with
                | zero =>
                  intro j M2 hj o2 e2
                  have : j = i := by omega
                  subst this
                  show B_X10_missed_63 120 _ _ _ _ _ _ _ _
                  unfold B_X10_missed_63
                  rw [show M2 (120 + 3) 3 = nI j from by rw [show M2 (120 + 3) = Mt 123 from o2 123 (by unfold scrH; omega), e3 3 (by omega)]; exact hR.1.1]
                  refine br_t (nI_le (Nat.le_refl _) (by omega)) ?_
                  have iv : INV (n + 1) M2 := (h.tc t1).fq (ft.tr (FQ.H o2)) (e2.trans e.symm)
                  by_cases q : c = 0
                  · rw [if_pos q] at hv
                    exact ⟨fun z => absurd q z, fun _ => ⟨hv, iv⟩⟩
                  · rw [if_neg q] at hv
                    exact ⟨fun _ => ⟨hv, iv⟩, fun z => absurd z q⟩
                | succ m ih =>
                  intro j M2 hj o2 e2
                  show B_X10_missed_63 120 _ _ _ _ _ _ _ _
                  unfold B_X10_missed_63
                  rw [show M2 (120 + 3) 3 = nI i from by rw [show M2 (120 + 3) = Mt 123 from o2 123 (by unfold scrH; omega), e3 3 (by omega)]; exact hR.1.1]
                  refine br_f (nI_ge (by omega) (by omega)) ?_
                  have pk : ∀ (u k : Nat) (M3 : Mem), k + u = nk → only scrH Mt M3 → M3 121 = tkZ r j k → l_X10_missed_77 120 (fun r2 M2 => v = r2 ∧ INV (n + 1) M2) (l_X10_missed_63 120 (fun r2 M2 => v = r2 ∧ INV (n + 1) M2) (nI t) c (m + 1)) (nI t) c (msZ f j).1 (msZ f j).2 (nI j) (u + 1) (nI k) M3 := by
                    intro u
                    induction u with
                    | zero =>
                      intro k M3 hk o3 e31
                      have : k = nk := by omega
                      subst this
                      show B_X10_missed_77 120 _ _ _ _ _ _ _ _ _ _
                      unfold B_X10_missed_77
                      have hRj := hRc j (by omega)
                      rw [show M3 (120 + 1) 2 = nI k from by rw [show M3 (120 + 1) = _ from e31]; exact hRj.2.1.1]
                      refine br_t (nI_le (Nat.le_refl _) (by omega)) ?_
                      refine sp_passes (by rw [e31]; exact hRj) (by omega) (fun M4 e4 o4 => ?_)
                      rw [e31] at e4
                      refine sp_mFound (by rw [e4]; exact pass_RO hRj t (by omega)) ?_
                      rw [e4]
                      refine sp_mcnt hRj (by omega) ?_
                      rw [fe]
                      refine sp_moveAll (a := 123) (d := 121) (by omega) (by omega) (by omega) ?_
                      have b1 : mcp M4 123 0 121 0 242 121 = r := back_row (r2 := M4 121) (fun x hx => by rw [e4, pass_out hRj hx t (by omega), tk_out hx k (by omega)]) (fun x hx => by rw [(o3.tr o4) 123 (by unfold scrH; omega)]; exact e3 x hx) rfl
                      have b2 : only scrH Mt (mcp M4 123 0 121 0 242) := (o3.tr o4).tr (fun b hb => mcp_ne (fun z => hb (by unfold scrH; omega)))
                      have nx := ih (j + 1) _ (by omega) b2 b1
                      unfold b_X10_missed_154 b_X10_missed_169
                      by_cases q : (msZ f j).2 ≤ f j
                      · rw [ms_t q] at nx
                        refine br_t q (br_t q ?_)
                        intro y ey
                        rw [nI_1] at ey
                        subst ey
                        exact nx
                      · rw [ms_f q] at nx
                        refine br_f q (br_f q ?_)
                        intro y ey
                        rw [nI_1] at ey
                        subst ey
                        exact nx
                    | succ u ihu =>
                      intro k M3 hk o3 e31
                      show B_X10_missed_77 120 _ _ _ _ _ _ _ _ _ _
                      unfold B_X10_missed_77
                      have hRk := tk_RO hR (s := j) (by omega) k (by omega)
                      rw [show M3 (120 + 1) 2 = nI nk from by rw [show M3 (120 + 1) = _ from e31]; exact hRk.2.1.1]
                      refine br_f (nI_ge (by omega) (by omega)) (sp_its (w := 4) (by omega) (by decide) (sp_gets (w := 4) (by omega) (by decide) ?_))
                      intro y ey
                      rw [nI_1] at ey
                      subst ey
                      refine ihu (k + 1) _ (by omega) (o3.tr (only.mu (by unfold scrH; omega))) ?_
                      rw [mu_same, e31]
                      rfl
                  exact ⟨nk + 1, pk nk 0 M2 (by omega) o2 e2⟩
              unfold wp_X10_missed
              refine ⟨by decide, ?_⟩
              rw [e_in, e_in]
              refine b1t h1 (b2t h3 ?_)
              rw [show M1 (120 + 1) 3 = nI i from by rw [show M1 (120 + 1) = r from e]; exact hR.1.1]
              refine ⟨fun _ => sp_moveAll (a := 121) (d := 123) (by omega) (by omega) (by omega) ?_, fun z => absurd z nz⟩
              rw [← eMt]
              exact ⟨i + 1, pm i 0 Mt (by omega) only.rf et⟩
            rw [show M1 (0 + 1 + 1) 6 = nI i from by rw [show M1 (0 + 1 + 1) = M 2 from t1.off (by omega)]; exact e26]
            refine br_t (nI_le (Nat.le_refl _) (by omega)) ?_
            by_cases q : c = 0
            · exact ⟨fun z => absurd q z, fun _ => mdl _ (by rw [if_pos q])⟩
            · exact ⟨fun _ => mdl _ (by rw [if_neg q]), fun z => absurd z q⟩
          | succ m ih =>
            intro i M1 hi t1
            show B_X9_missed_51 0 _ _ _ _ _ _ _ _
            unfold B_X9_missed_51
            rw [show M1 (0 + 1 + 1) 6 = nI ns from by rw [show M1 (0 + 1 + 1) = M 2 from t1.off (by omega)]; exact e26]
            refine br_f (nI_ge (by omega) (by omega)) ?_
            refine sp_think (h.tc t1) (fun M2 t2 m2 => ?_)
            rw [t1.off (b := 121) (by omega), ← er] at m2
            refine sp_take m2 hR (by omega) (fun M3 m3 o3 => ?_)
            refine sp_passHours (o := 69) (by decide) m3 (hRc i (by omega)) (by omega) (fun M4 m4 _ o4 => ?_)
            refine sp_foundSet (o := 69) (by decide) m4 (pass_RO (hRc i (by omega)) t (by omega)) ?_
            refine sp_cnt (hRc i (by omega)) (by omega) ?_
            rw [fe]
            have nx := ih (i + 1) M4 (by omega) ((t1.tr t2).tr ((TC.of o3 m3).tr (TC.of o4 m4)))
            unfold b_X9_missed_113
            by_cases q : (msZ f i).2 ≤ f i
            · rw [ms_t q] at nx
              refine br_t q ?_
              intro y ey
              rw [nI_1] at ey
              subst ey
              exact nx
            · rw [ms_f q] at nx
              refine br_f q ?_
              intro y ey
              rw [nI_1] at ey
              subst ey
              exact nx
        exact ⟨ns + 1, pc ns 0 M (by omega) h.tc0⟩
    · exact b2f h3 (bad (fun z => h3 z.2))
  · exact b1f h1 (bad (fun z => h1 z.1))
