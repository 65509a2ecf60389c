/-- START -/
noncomputable def cntZ (ns nk : Nat) (r : Nat → Int32) (n : Nat) : Nat := pcN (fsN (passZ ns nk r n) nk)
theorem sp_cnt {ns nk hr n : Nat} {r : Nat → Int32} {M : Mem} {Q : Int32 → Mem → Prop} (hR : RO r ns nk hr) (hn : hr + n < 20000) (hQ : Q (nI (cntZ ns nk r n)) M) : wp_J6_bitCount_0f7a4 (fsZ (passZ ns nk r n) nk) M Q := by
  have n7 := hR.2.1.2
  obtain ⟨e, l⟩ := fs_lt (pass_RO hR n hn) nk (by omega)
  rw [e]
  have : 2 ^ nk ≤ 2 ^ 7 := Nat.pow_le_pow_right (by decide) n7
  exact sp_bitCount (by omega) hQ
theorem sp_mcnt {ns nk hr n : Nat} {r : Nat → Int32} {M : Mem} {Q : Int32 → Mem → Prop} (hR : RO r ns nk hr) (hn : hr + n < 20000) (hQ : Q (nI (cntZ ns nk r n)) M) : wp_X10_bits (fsZ (passZ ns nk r n) nk) M Q := by
  have n7 := hR.2.1.2
  obtain ⟨e, l⟩ := fs_lt (pass_RO hR n hn) nk (by omega)
  rw [e]
  have : 2 ^ nk ≤ 2 ^ 7 := Nat.pow_le_pow_right (by decide) n7
  exact sp_bits (by omega) hQ
def stZ (f : Nat → Int32) : Nat → Int32 × Int32
  | 0 => (0, -1)
  | c + 1 => if f c ≤ (stZ f c).2 then stZ f c else (nI c, f c)
theorem st_t {f : Nat → Int32} {c : Nat} (h : f c ≤ (stZ f c).2) : stZ f (c + 1) = stZ f c := if_pos h
theorem st_f {f : Nat → Int32} {c : Nat} (h : ¬ f c ≤ (stZ f c).2) : stZ f (c + 1) = (nI c, f c) := if_neg h
theorem zin01 {a : Int32} (h : zin a 0 1) : a = 0 ∨ a = 1 := by
  obtain ⟨k, hk, rfl⟩ := (zin_nI (n := 1) (by decide)).mp h
  have : k = 0 ∨ k = 1 := by omega
  rcases this with rfl | rfl
  · exact Or.inl rfl
  · exact Or.inr rfl
theorem upd_upd {r : Nat → Int32} {k : Nat} {v w : Int32} : upd (upd r k v) k w = upd r k w := by
  funext j
  by_cases h : j = k
  · subst h; rw [upd_hit, upd_hit]
  · rw [upd_off h, upd_off h, upd_off h]
theorem upd_self {r : Nat → Int32} {k : Nat} : upd r k (r k) = r := by
  funext j
  by_cases h : j = k
  · subst h; rw [upd_hit]
  · rw [upd_off h]
theorem call_start {n : Nat} {M : Mem} (h : INV n M) (a b c : Int32) : wp_X9_start 0 a b c M (fun r M1 => wp_X10_start 120 a b c M1 (fun r2 M2 => r = r2 ∧ INV (n + 1) M2)) := by
  obtain ⟨ns, nk, hr, hR, hh⟩ := h.ro
  have n7 := hR.2.1.2
  have n6 := hR.1.2
  have e26 : M 2 6 = nI ns := h.mr.1.2.2.trans hR.1.1
  have bad : ¬ (zin a 0 (nI ns - 1) ∧ zin b 0 20 ∧ zin c 0 1) → wp_X9_refuse 0 1 M (fun r M1 => wp_X10_start 120 a b c M1 (fun r2 M2 => r = r2 ∧ INV (n + 1) M2)) := by
    intro hb
    refine sp_refuse (k := 1) (by decide) (by decide) ?_
    unfold wp_X10_start b_X10_start_27
    refine ⟨by decide, ?_⟩
    rw [e_mSeeker, e_in, e_in, mu_ne (by decide), hR.1.1]
    have fe := fin_err (e := -1000000001) h (k := 1) (by decide) (by decide) rfl
    by_cases h1 : zin a 0 (nI ns - 1)
    · by_cases h2 : zin b 0 20
      · exact b1t h1 (b1t h2 (b2f (fun z => hb ⟨h1, h2, z⟩) fe))
      · exact b1t h1 (b1f h2 fe)
    · exact b1f h1 fe
  unfold wp_X9_start b_X9_start_25
  refine ⟨by decide, ?_⟩
  rw [e_isSeeker, e_isWithin, e_isWithin, e26]
  by_cases h1 : zin a 0 (nI ns - 1)
  · refine b1t h1 ?_
    by_cases h2 : zin b 0 20
    · refine b1t h2 ?_
      by_cases h3 : zin c 0 1
      · refine b2t h3 ?_
        obtain ⟨s, hs, rfl⟩ := (zin_cnt (by omega)).mp h1
        obtain ⟨t, ht, rfl⟩ := (zin_nI (n := 20) (by decide)).mp h2
        obtain ⟨r, er⟩ : ∃ r, r = M 121 := ⟨_, rfl⟩
        rw [← er] at hR
        have hRc : ∀ i, i < 10 → RO (upd r (18 + 2 * s) (nI i)) ns nk hr := fun i hi => hR.at ⟨i, by omega, rfl⟩ hs
        obtain ⟨f, ef⟩ : ∃ f : Nat → Int32, f = fun i => nI (cntZ ns nk (upd r (18 + 2 * s) (nI i)) t) := ⟨_, rfl⟩
        have fe : ∀ i, nI (cntZ ns nk (upd r (18 + 2 * s) (nI i)) t) = f i := fun i => by rw [ef]
        have pc : ∀ (m i : Nat) (M1 : Mem), i + m = 10 → TC M M1 → l_X9_start_40 0 (fun r M1 => wp_X10_start 120 (nI s) (nI t) c M1 (fun r2 M2 => r = r2 ∧ INV (n + 1) M2)) (nI s) (nI t) c (m + 1) (stZ f i).1 (stZ f i).2 (nI i) M1 := by
          intro m
          induction m with
          | zero =>
            intro i M1 hi t1
            have : i = 10 := by omega
            subst this
            show B_X9_start_40 0 _ _ _ _ _ _ _ _ _
            unfold B_X9_start_40
            have e := t1.off (b := 121) (by omega)
            rw [← er] at e
            -- the reference
            have mdl : ∀ v : Int32, v = (if c = 0 then (stZ f 10).1 else (stZ f 10).2) → wp_X10_start 120 (nI s) (nI t) c M1 (fun r2 M2 => v = r2 ∧ INV (n + 1) M2) := by
              intro v hv
              have pm : ∀ (m i : Nat) (M2 : Mem), i + m = 10 → FQ M1 M2 → (∃ x, M2 121 = upd r (18 + 2 * s) x) → l_X10_start_50 120 (fun r2 M2 => v = r2 ∧ INV (n + 1) M2) (nI s) (nI t) c (r (18 + 2 * s)) (m + 1) (stZ f i).1 (stZ f i).2 (nI i) M2 := by
                intro m
                induction m with
                | zero =>
                  intro i M2 hi f2 ⟨x, e2⟩
                  have : i = 10 := by omega
                  subst this
                  show B_X10_start_50 120 _ _ _ _ _ _ _ _ _ _
                  unfold B_X10_start_50
                  refine br_t (by decide) ?_
                  rw [show (18 : Int32) = nI 18 from rfl, show (2 : Int32) = nI 2 from rfl, pk_mul, nI_add]
                  refine ⟨vp_in_nI (by omega) (by decide), ?_⟩
                  rw [nI_clamp (by omega)]
                  intro M3 e3
                  have e31 : M3 121 = M1 121 := by rw [e3, show (120 + 1 : Nat) = 121 from rfl, mu_same, e2, e, upd_upd, upd_self]
                  have f3 : FQ M1 M3 := by rw [e3]; exact f2.tr FQ.mu
                  by_cases q : c = 0
                  · rw [if_pos q] at hv
                    exact ⟨fun z => absurd q z, fun _ => ⟨hv, (h.tc t1).fq f3 e31⟩⟩
                  · rw [if_neg q] at hv
                    exact ⟨fun _ => ⟨hv, (h.tc t1).fq f3 e31⟩, fun z => absurd z q⟩
                | succ m ih =>
                  intro i M2 hi f2 ⟨x, e2⟩
                  show B_X10_start_50 120 _ _ _ _ _ _ _ _ _ _
                  unfold B_X10_start_50
                  refine br_f (fun z => nI_ge (a := i) (b := 10) (by omega) (by decide) z) ?_
                  rw [show (18 : Int32) = nI 18 from rfl, show (2 : Int32) = nI 2 from rfl, pk_mul, nI_add]
                  refine ⟨vp_in_nI (by omega) (by decide), ?_⟩
                  rw [nI_clamp (by omega)]
                  intro M3 e3
                  have e31 : M3 121 = upd r (18 + 2 * s) (nI i) := by rw [e3, show (120 + 1 : Nat) = 121 from rfl, mu_same, e2, upd_upd]
                  have f3 : FQ M1 M3 := by rw [e3]; exact f2.tr FQ.mu
                  refine sp_fb (by rw [e31]; exact hRc i (by omega)) (by omega) (fun M4 e4 f4 => ?_)
                  rw [e31]
                  refine sp_mcnt (hRc i (by omega)) (by omega) ?_
                  rw [fe]
                  have nx := ih (i + 1) M4 (by omega) (f3.tr f4) ⟨_, e4.trans e31⟩
                  unfold b_X10_start_94 b_X10_start_110
                  by_cases q : f i ≤ (stZ f i).2
                  · rw [st_t q] at nx
                    refine br_t q (br_t q ?_)
                    intro y ey
                    rw [nI_1] at ey
                    subst ey
                    exact nx
                  · rw [st_f q] at nx
                    refine br_f q (br_f q ?_)
                    intro y ey
                    rw [nI_1] at ey
                    subst ey
                    exact nx
              unfold wp_X10_start
              refine ⟨by decide, ?_⟩
              rw [e_mSeeker, e_in, e_in, e, hR.1.1]
              refine b1t h1 (b1t h2 (b2t h3 (sp_at (by omega) ?_)))
              rw [e]
              exact ⟨11, pm 10 0 M1 (by omega) FQ.rf ⟨r (18 + 2 * s), by rw [upd_self]; exact e⟩⟩
            refine br_t (by decide) ?_
            by_cases q : c = 0
            · exact ⟨fun z => absurd q z, fun _ => mdl _ (by rw [if_pos q])⟩
            · exact ⟨fun _ => mdl _ (by rw [if_neg q]), fun z => absurd z q⟩
          | succ m ih =>
            intro i M1 hi t1
            show B_X9_start_40 0 _ _ _ _ _ _ _ _ _
            unfold B_X9_start_40
            refine br_f (fun z => nI_ge (a := i) (b := 10) (by omega) (by decide) z) ?_
            refine sp_think (h.tc t1) (fun M2 t2 m2 => ?_)
            rw [t1.off (b := 121) (by omega), ← er] at m2
            refine ⟨vp_in_nI (by omega) (by decide), ?_⟩
            rw [nI_clamp (by omega)]
            intro M3 e3
            have m3 : MR M3 69 (upd r (18 + 2 * s) (nI i)) := by rw [e3]; exact m2.seeker (w := 0) (by decide) (by omega) (by rw [hR.tn3]; omega)
            have t3 : TC M2 M3 := TC.of (by rw [e3]; exact only.mu ⟨by omega, by omega⟩) m3
            refine sp_passHours (o := 69) (by decide) m3 (hRc i (by omega)) (by omega) (fun M4 m4 _ o4 => ?_)
            refine sp_foundSet (o := 69) (by decide) m4 (pass_RO (hRc i (by omega)) t (by omega)) ?_
            refine sp_cnt (hRc i (by omega)) (by omega) ?_
            rw [fe]
            have nx := ih (i + 1) M4 (by omega) ((t1.tr t2).tr (t3.tr (TC.of o4 m4)))
            unfold b_X9_start_100
            by_cases q : f i ≤ (stZ f i).2
            · rw [st_t q] at nx
              refine br_t q ?_
              intro y ey
              rw [nI_1] at ey
              subst ey
              exact nx
            · rw [st_f q] at nx
              refine br_f q ?_
              intro y ey
              rw [nI_1] at ey
              subst ey
              exact nx
        exact ⟨11, pc 10 0 M (by omega) h.tc0⟩
      · exact b2f h3 (bad (fun z => h3 z.2.2))
    · exact b1f h2 (bad (fun z => h2 z.2.1))
  · exact b1f h1 (bad (fun z => h1 z.1))
/-- STRONG -/
theorem call_strong {n : Nat} {M : Mem} (h : INV n M) (a b c : Int32) : wp_X9_strong 0 a b c M (fun r M1 => wp_X10_strong 120 a b c M1 (fun r2 M2 => r = r2 ∧ INV (n + 1) M2)) := by
  obtain ⟨ns, nk, hr, hR, hh⟩ := h.ro
  have n7 := hR.2.1.2
  have n6 := hR.1.2
  have e26 : M 2 6 = nI ns := h.mr.1.2.2.trans hR.1.1
  have e27 : M 2 7 = nI nk := h.mr.1.2.1.trans hR.2.1.1
  have bad : ¬ (zin a 0 (nI ns - 1) ∧ zin b 0 (nI nk - 1) ∧ zin c 0 20) → wp_X9_refuse 0 1 M (fun r M1 => wp_X10_strong 120 a b c M1 (fun r2 M2 => r = r2 ∧ INV (n + 1) M2)) := by
    intro hb
    refine sp_refuse (k := 1) (by decide) (by decide) ?_
    unfold wp_X10_strong b_X10_strong_26
    refine ⟨by decide, ?_⟩
    rw [e_mSeeker, e_mSheep, e_in, mu_ne (by decide), hR.1.1, hR.2.1.1]
    have fe := fin_err (e := -1000000001) h (k := 1) (by decide) (by decide) rfl
    by_cases h1 : zin a 0 (nI ns - 1)
    · by_cases h2 : zin b 0 (nI nk - 1)
      · exact b1t h1 (b1t h2 (b2f (fun z => hb ⟨h1, h2, z⟩) fe))
      · exact b1t h1 (b1f h2 fe)
    · exact b1f h1 fe
  unfold wp_X9_strong b_X9_strong_25
  refine ⟨by decide, ?_⟩
  rw [e_isSeeker, e_isSheep, e_isWithin, e26, e27]
  by_cases h1 : zin a 0 (nI ns - 1)
  · refine b1t h1 ?_
    by_cases h2 : zin b 0 (nI nk - 1)
    · refine b1t h2 ?_
      by_cases h3 : zin c 0 20
      · refine b2t h3 ?_
        obtain ⟨s, hs, rfl⟩ := (zin_cnt (by omega)).mp h1
        obtain ⟨k, hk, rfl⟩ := (zin_cnt (by omega)).mp h2
        obtain ⟨t, ht, rfl⟩ := (zin_nI (n := 20) (by decide)).mp h3
        obtain ⟨r, er⟩ : ∃ r, r = M 121 := ⟨_, rfl⟩
        rw [← er] at hR
        have hRc : ∀ i, i < 100 → RO (upd r (18 + 2 * s + 1) (nI i)) ns nk hr := fun i hi => hR.str ⟨i, by omega, rfl⟩ hs
        obtain ⟨P, eP⟩ : ∃ P : Nat → Prop, P = fun i => ¬ passZ ns nk (upd r (18 + 2 * s + 1) (nI i)) t (30 + 6 * k + 5) = 0 := ⟨_, rfl⟩
        have Pe : ∀ i, P i = ¬ passZ ns nk (upd r (18 + 2 * s + 1) (nI i)) t (30 + 6 * k + 5) = 0 := fun i => by rw [eP]
        -- the reference: up to strength v
        have mdl : ∀ (v : Nat) (ok : Int32) (Q : Int32 → Mem → Prop) (M1 : Mem), M1 121 = r → v < 100 → (∀ i, i < v → ¬ P i) → ((P v ∧ ok = 1) ∨ (v = 99 ∧ ¬ P v ∧ ok = 0)) → (∀ M3, FQ M1 M3 → M3 121 = r → (ok = 0 → wp_X10_errs 120 (-1000000002) M3 Q) ∧ (¬ ok = 0 → Q (nI v) M3)) → wp_X10_strong 120 (nI s) (nI k) (nI t) M1 Q := by
          intro v ok Q M1 e hv hlow hend hq
          have fin : ∀ M2, FQ M1 M2 → (∃ x, M2 121 = upd r (18 + 2 * s + 1) x) → b_X10_strong_105 120 Q (nI (18 + 2 * s + 1)) (r (18 + 2 * s + 1)) (nI v) ok M2 := by
            intro M2 f2 ⟨x, e2⟩
            unfold b_X10_strong_105
            refine ⟨vp_in_nI (by omega) (by decide), ?_⟩
            rw [nI_clamp (by omega)]
            intro M3 e3
            have e31 : M3 121 = r := by rw [e3, show (120 + 1 : Nat) = 121 from rfl, mu_same, e2, upd_upd, upd_self]
            exact hq M3 (by rw [e3]; exact f2.tr FQ.mu) e31
          -- one step: strength i is tried
          have stp : ∀ (i : Nat) (M2 : Mem) (K : Int32 → Int32 → Mem → Prop), i < 100 → FQ M1 M2 → (∃ x, M2 121 = upd r (18 + 2 * s + 1) x) → (∀ M4, FQ M1 M4 → M4 121 = upd r (18 + 2 * s + 1) (nI i) → (P i → K (nI i) 1 M4) ∧ (¬ P i → K (nI i) 0 M4)) →
              (vp_in (nI (18 + 2 * s + 1)) 242 ∧ ∀ M_10, M_10 = mu M2 (120 + 1) (nI (18 + 2 * s + 1)).toNatClampNeg (nI i) → wp_X10_foundBehind 120 (nI t) M_10 (fun r_12 M_11 => (¬ ((isr r_12 (nI k)) &&& 1) = 1 → b_X10_strong_100 120 Q K (nI k) (nI t) (nI (18 + 2 * s + 1)) (r (18 + 2 * s + 1)) (nI i) 0 M_11) ∧ (((isr r_12 (nI k)) &&& 1) = 1 → b_X10_strong_100 120 Q K (nI k) (nI t) (nI (18 + 2 * s + 1)) (r (18 + 2 * s + 1)) (nI i) 1 M_11))) := by
            intro i M2 K hi f2 ⟨x, e2⟩ hK
            refine ⟨vp_in_nI (by omega) (by decide), ?_⟩
            rw [nI_clamp (by omega)]
            intro M3 e3
            have e31 : M3 121 = upd r (18 + 2 * s + 1) (nI i) := by rw [e3, show (120 + 1 : Nat) = 121 from rfl, mu_same, e2, upd_upd]
            refine sp_fb (by rw [e31]; exact hRc i hi) (by omega) (fun M4 e4 f4 => ?_)
            have hRt := pass_RO (hRc i hi) t (by omega)
            rw [e31, fs_is hRt hk]
            have g := hK M4 (f2.tr ((by rw [e3]; exact FQ.mu : FQ M2 M3).tr f4)) (e4.trans e31)
            rw [Pe] at g
            obtain ⟨j, hj, ej⟩ := hRt.fld (k := k) (w := 5) hk (by decide)
            have hj : j ≤ 1 := hj
            unfold b_X10_strong_100
            have : j = 0 ∨ j = 1 := by omega
            rcases this with rfl | rfl
            · have z0 : passZ ns nk (upd r (18 + 2 * s + 1) (nI i)) t (30 + 6 * k + 5) = 0 := ej
              exact ⟨fun _ => g.2 (fun z => z z0), fun z => absurd (z0.symm.trans z) (by decide)⟩
            · have z1 : passZ ns nk (upd r (18 + 2 * s + 1) (nI i)) t (30 + 6 * k + 5) = 1 := ej
              exact ⟨fun z => absurd z1 z, fun _ => g.1 (fun z => absurd (z1.symm.trans z) (by decide))⟩
          have pm : ∀ (m i : Nat) (M2 : Mem), i + m = v → FQ M1 M2 → M2 121 = upd r (18 + 2 * s + 1) (nI i) → (i < v → l_X10_strong_58 120 Q (nI k) (nI t) (nI (18 + 2 * s + 1)) (r (18 + 2 * s + 1)) (m + 1) (nI i) 0 M2) ∧ (i = v → l_X10_strong_58 120 Q (nI k) (nI t) (nI (18 + 2 * s + 1)) (r (18 + 2 * s + 1)) (m + 1) (nI i) ok M2) := by
            intro m
            induction m with
            | zero =>
              intro i M2 hi f2 e2
              refine ⟨fun z => by omega, fun _ => ?_⟩
              have : i = v := by omega
              subst this
              show B_X10_strong_58 120 Q _ _ _ _ _ _ _ _
              unfold B_X10_strong_58
              by_cases q99 : i = 99
              · exact br_t (by rw [q99]; decide) (fin M2 f2 ⟨_, e2⟩)
              · refine br_f (nI_ge (a := i) (b := 99) (by omega) (by decide)) ⟨fun _ => fin M2 f2 ⟨_, e2⟩, fun z => ?_⟩
                rcases hend with q | q
                · rw [q.2] at z; exact absurd z (by decide)
                · exact absurd q.1 q99
            | succ m ih =>
              intro i M2 hi f2 e2
              refine ⟨fun _ => ?_, fun z => by omega⟩
              show B_X10_strong_58 120 Q _ _ _ _ _ _ _ _
              unfold B_X10_strong_58
              refine br_f (nI_ge (a := i) (b := 99) (by omega) (by decide)) ⟨fun z => absurd rfl z, fun _ => ?_⟩
              intro x ex
              rw [nI_1] at ex
              subst ex
              refine stp (i + 1) M2 _ (by omega) f2 ⟨_, e2⟩ (fun M4 f4 e4 => ?_)
              have nx := ih (i + 1) M4 (by omega) f4 e4
              by_cases q : i + 1 = v
              · rw [q] at nx ⊢
                rcases hend with u | u
                · exact ⟨fun _ => by have := nx.2 rfl; rw [u.2] at this; exact this, fun z => absurd u.1 z⟩
                · exact ⟨fun z => absurd z u.2.1, fun _ => by have := nx.2 rfl; rw [u.2.2] at this; exact this⟩
              · exact ⟨fun z => absurd z (hlow (i + 1) (by omega)), fun _ => nx.1 (by omega)⟩
          unfold wp_X10_strong
          refine ⟨by decide, ?_⟩
          rw [e_mSeeker, e_mSheep, e_in, e, hR.1.1, hR.2.1.1]
          refine b1t h1 (b1t h2 (b2t h3 ?_))
          intro x ex
          rw [show (18 : Int32) = nI 18 from rfl, show (2 : Int32) = nI 2 from rfl, pk_mul, nI_add, nI_1] at ex
          subst ex
          refine ⟨vp_in_nI (by omega) (by decide), ?_⟩
          rw [nI_clamp (by omega)]
          intro y ey
          subst ey
          refine ⟨v + 1 + 1, ?_⟩
          show B_X10_strong_58 120 Q _ _ _ _ _ _ _ _
          unfold B_X10_strong_58
          refine br_f (by decide) ⟨fun z => absurd rfl z, fun _ => ?_⟩
          intro x ex
          have ex : x = nI 0 := by rw [ex]; decide
          subst ex
          refine stp 0 M1 _ (by omega) FQ.rf ⟨r (18 + 2 * s + 1), by rw [upd_self]; exact e⟩ (fun M4 f4 e4 => ?_)
          have nx := pm v 0 M4 (by omega) f4 e4
          by_cases q : 0 = v
          · rw [← q] at nx ⊢
            rcases hend with u | u
            · exact ⟨fun _ => by have := nx.2 rfl; rw [u.2] at this; exact this, fun z => absurd (q ▸ u.1) z⟩
            · omega
          · exact ⟨fun z => absurd z (hlow 0 (by omega)), fun _ => nx.1 (by omega)⟩
        have pc : ∀ (m i : Nat) (M1 : Mem), i + m = 100 → TC M M1 → (∀ j, j < i → ¬ P j) → l_X9_strong_34 0 (fun r M1 => wp_X10_strong 120 (nI s) (nI k) (nI t) M1 (fun r2 M2 => r = r2 ∧ INV (n + 1) M2)) (nI s) (nI k) (nI t) (m + 1) (nI i) M1 := by
          intro m
          induction m with
          | zero =>
            intro i M1 hi t1 hlow
            have : i = 100 := by omega
            subst this
            show B_X9_strong_34 0 _ _ _ _ _ _ _
            unfold B_X9_strong_34
            refine br_t (by decide) (sp_refuse (k := 2) (by decide) (by decide) ?_)
            have e : M1 121 = r := (t1.off (by omega)).trans er.symm
            refine mdl 99 0 _ _ (by rw [mu_ne (by decide)]; exact e) (by omega) (fun i hi => hlow i (by omega)) (Or.inr ⟨rfl, hlow 99 (by omega), rfl⟩) (fun M3 f3 e3 => ⟨fun _ => ?_, fun z => absurd rfl z⟩)
            exact fin_errF (h.tc t1) (e := -1000000002) (k := 2) (by decide) (by decide) rfl f3 (e3.trans e.symm)
          | succ m ih =>
            intro i M1 hi t1 hlow
            show B_X9_strong_34 0 _ _ _ _ _ _ _
            unfold B_X9_strong_34
            refine br_f (fun z => nI_nlt (a := 99) (b := i) (by omega) (by omega) z) ?_
            refine sp_think (h.tc t1) (fun M2 t2 m2 => ?_)
            have e : M1 121 = r := (t1.off (by omega)).trans er.symm
            rw [e] at m2
            refine ⟨vp_in_nI (by omega) (by decide), ?_⟩
            rw [nI_clamp (by omega)]
            intro M3 e3
            have m3 : MR M3 69 (upd r (18 + 2 * s + 1) (nI i)) := by rw [e3]; exact m2.seeker (w := 1) (by decide) (by omega) (by rw [hR.tn3]; omega)
            have t3 : TC M2 M3 := TC.of (by rw [e3]; exact only.mu ⟨by omega, by omega⟩) m3
            refine sp_passFor (o := 69) (by decide) m3 (hRc i (by omega)) (by omega) hk (fun p M4 hp hs4 hst m4 o4 => ?_)
            have t4 := (t1.tr t2).tr (t3.tr (TC.of o4 m4))
            have hRp := pass_RO (hRc i (by omega)) p (by omega)
            have F : M4 (69 + 13 + 9 + k) 5 = passZ ns nk (upd r (18 + 2 * s + 1) (nI i)) t (30 + 6 * k + 5) := (m4.2.2.2.1 k (by rw [hRp.tn2]; omega) 5 (by decide)).trans (settle (hRc i (by omega)) hp (by omega) hst)
            refine ⟨vp_in_nI (by omega) (by decide), ?_⟩
            rw [nI_clamp (by omega), show M4 (0 + 69 + 13 + 9 + k) 5 = _ from F]
            by_cases q : P i
            · refine ⟨fun z => absurd z (by rw [Pe] at q; exact q), fun _ => ?_⟩
              have e4 : M4 121 = r := (t4.off (by omega)).trans er.symm
              exact mdl i 1 _ _ e4 (by omega) hlow (Or.inl ⟨q, rfl⟩) (fun M5 f5 e5 => ⟨fun z => absurd z (by decide), fun _ => ⟨rfl, (h.tc t4).fq f5 (e5.trans e4.symm)⟩⟩)
            · refine ⟨fun _ => ?_, fun z => absurd (by rw [Pe]; exact z) q⟩
              intro x ex
              rw [nI_1] at ex
              subst ex
              refine ih (i + 1) M4 (by omega) t4 (fun j hj => ?_)
              by_cases u : j = i
              · rw [u]; exact q
              · exact hlow j (by omega)
        exact ⟨101, pc 100 0 M (by omega) h.tc0 (fun j hj => by omega)⟩
      · exact b2f h3 (bad (fun z => h3 z.2.2))
    · exact b1f h2 (bad (fun z => h2 z.2.1))
  · exact b1f h1 (bad (fun z => h1 z.1))
