def scrQ : Nat → Prop := fun b => b = 121 ∨ b = 123 ∨ b = 126 ∨ b = 127 ∨ b = 128
theorem sameM.q {M1 M2 : Mem} (h3 : only scrQ M1 M2) (e : M2 121 = M1 121) : sameM M1 M2 := ⟨e, h3 _ (by unfold scrQ; omega), h3 _ (by unfold scrQ; omega), h3 _ (by unfold scrQ; omega), h3 _ (by unfold scrQ; omega), h3 _ (by unfold scrQ; omega), h3 _ (by unfold scrQ; omega), by rw [h3 120 (by unfold scrQ; omega)], by rw [h3 120 (by unfold scrQ; omega)], by rw [h3 120 (by unfold scrQ; omega)]⟩
theorem INV.q {n : Nat} {M M1 M2 : Mem} (h : INV n M) (h1 : only scC M M1) (h2 : ∀ b, 120 ≤ b → M1 b = M b) (h3 : only scrQ M1 M2) (e : M2 121 = M1 121) (hz : ∀ i, 242 ≤ i → M2 123 i = 0) : INV (n + 1) M2 := by
  refine h.ask h1 h2 (fun b hb => h3 b (by unfold scrQ; omega)) (sameM.q h3 e) (fun i hi => ?_)
  rw [e, h3 122 (by unfold scrQ; omega), h2 121 (by decide), h2 122 (by decide)]
  exact ⟨(h.2.2 i hi).1, (h.2.2 i hi).2.1, hz i hi⟩
theorem fin_errQ {n k : Nat} {M M1 M2 : Mem} {e : Int32} (h : INV n M) (h1 : 1 ≤ k) (h5 : k ≤ 5) (he : e = (-1000000000) - nI k) (hc : only scC M M1) (hm : ∀ b, 120 ≤ b → M1 b = M b) (h3 : only scrQ (mu M1 107 k (M1 107 k + 1)) M2) (e1 : M2 121 = M 121) (hz : ∀ i, 242 ≤ i → M2 123 i = 0) : wp_X10_errs 120 e M2 (fun r2 M' => (-1000000000) - nI k = r2 ∧ INV (n + 1) M') := by
  refine sp_errs (k := k) h5 (by rw [he]; exact err_val k h1 h5) ⟨he.symm, ?_⟩
  refine h.err h1 h5 hc hm (fun b hb => h3 b (by unfold scrQ; omega)) ?_ (fun i hi => ?_)
  · have K : ∀ b, 120 ≤ b → ¬ scrQ b → M2 b = M1 b := fun b hb hq => by rw [h3 b hq, mu_ne (by omega)]
    exact ⟨by rw [e1, hm 121 (by decide)], K _ (by decide) (by unfold scrQ; omega), K _ (by decide) (by unfold scrQ; omega), K _ (by decide) (by unfold scrQ; omega), K _ (by decide) (by unfold scrQ; omega), K _ (by decide) (by unfold scrQ; omega), K _ (by decide) (by unfold scrQ; omega), by rw [K 120 (by decide) (by unfold scrQ; omega)], by rw [K 120 (by decide) (by unfold scrQ; omega)], by rw [K 120 (by decide) (by unfold scrQ; omega)]⟩
  · rw [e1, h3 122 (by unfold scrQ; omega), mu_ne (by decide), hm 122 (by decide)]
    exact ⟨(h.2.2 i hi).1, (h.2.2 i hi).2.1, hz i hi⟩
theorem RO.str {r : Nat → Int32} {ns nk hr s : Nat} {v : Int32} (h : RO r ns nk hr) (hv : zb v 99) (hs : s < ns) : RO (upd r (18 + 2 * s + 1) v) ns nk hr := by
  obtain ⟨⟨a1, a2⟩, ⟨b1, b2⟩, ⟨c1, c2⟩, d, e, f, g, i⟩ := h
  refine ⟨⟨by rw [upd_off (by omega)]; exact a1, a2⟩, ⟨by rw [upd_off (by omega)]; exact b1, b2⟩, ⟨by rw [upd_off (by omega)]; exact c1, c2⟩, fun c' hc' => ?_, fun s' hs' => ?_, fun k hk => ?_, ?_, ?_⟩
  · rw [upd_off (by omega)]; exact d c' hc'
  · by_cases q : s' = s
    · subst q; rw [upd_off (by omega), show 19 + 2 * s' = 18 + 2 * s' + 1 from by omega, upd_hit]; exact ⟨(e s' hs').1, hv⟩
    · rw [upd_off (by omega), upd_off (by omega)]; exact e s' hs'
  · rw [upd_off (by omega), upd_off (by omega), upd_off (by omega), upd_off (by omega), upd_off (by omega), upd_off (by omega)]; exact f k hk
  · rw [upd_off (by omega), show (fun j => upd r (18 + 2 * s + 1) v (142 + j)) = (fun j => r (142 + j)) from funext fun j => upd_off (by omega)]; exact g
  · rw [upd_off (by omega), show (fun j => upd r (18 + 2 * s + 1) v (192 + j)) = (fun j => r (192 + j)) from funext fun j => upd_off (by omega)]; exact i
/-- one number of the row changed on both sides -/
theorem INV.one {n k : Nat} {M M1 : Mem} {v : Int32} (h : INV n M) (hk : k < 72 ∨ 142 ≤ k) (hk2 : k ≠ 1 ∧ k ≠ 4 ∧ k ≠ 5 ∧ k < 242) (hr : RW (upd (M 121) k v)) (hm : MR M1 2 (upd (M 121) k v)) (ho : only (mo 2) M M1) : INV (n + 1) (mu M1 121 k v) := by
  refine h.moor (r := upd (M 121) k v) hr hm ho (fun i hi => upd_off (by omega)) (fun b hb => mu_ne (by omega)) (fun b h3 h4 => ?_) ?_ (fun i hi => ?_)
  · rw [mu_ne h4]; exact ho b (by unfold mo; omega)
  · rw [mu_same, ho 121 (by unfold mo; omega)]
  · rw [upd_off (by omega)]; exact h.z i hi
theorem call_send {n : Nat} {M : Mem} (h : INV n M) (a w v : Int32) : wp_X9_send 0 a w v M (fun r M1 => wp_X10_send 120 a w v M1 (fun r2 M2 => r = r2 ∧ INV (n + 1) M2)) := by
  obtain ⟨ns, nk, hr, hR, hh⟩ := h.ro
  have n6 := hR.1.2
  have t3 := hR.tn3
  have e26 : M 2 6 = nI ns := h.mr.1.2.2.trans hR.1.1
  have bad : ¬ (zin a 0 (nI ns - 1) ∧ ((w = 0 ∧ zin v 0 9) ∨ (w = 1 ∧ zin v 0 99))) → wp_X9_refuse 0 1 M (fun r M1 => wp_X10_send 120 a w v M1 (fun r2 M2 => r = r2 ∧ INV (n + 1) M2)) := by
    intro hb
    refine sp_refuse (k := 1) (by decide) (by decide) ?_
    have fe := fin_err (e := -1000000001) h (k := 1) (by decide) (by decide) rfl
    have f31 : ∀ s0 : Int32, (s0 = 0 ∨ ¬ zin a 0 (nI ns - 1)) → b_X10_send_31 120 (fun r2 M2 => (-1000000000) - nI 1 = r2 ∧ INV (n + 1) M2) a w v s0 (mu M 107 1 (M 107 1 + 1)) := by
      intro s0 hs0
      unfold b_X10_send_31 b_X10_send_62
      rw [e_mSeeker, mu_ne (by decide), hR.1.1]
      by_cases h1 : zin a 0 (nI ns - 1)
      · have : s0 = 0 := hs0.resolve_right (fun z => z h1)
        exact b1t h1 ⟨fun _ => fe, fun z => absurd this z⟩
      · exact b1f h1 fe
    unfold wp_X10_send b_X10_send_30
    refine ⟨by decide, fun z0 => ⟨fun z1 => f31 0 (Or.inl rfl), fun z1 => ?_⟩, fun z0 => ?_⟩
    · rw [e_in]
      by_cases h2 : zin v 0 99
      · exact b1t h2 (f31 1 (Or.inr (fun z => hb ⟨z, Or.inr ⟨z1, h2⟩⟩)))
      · exact b1f h2 (f31 0 (Or.inl rfl))
    · rw [e_mCell]
      by_cases h2 : zin v 0 9
      · exact f31 _ (Or.inr (fun z => hb ⟨z, Or.inl ⟨z0, h2⟩⟩))
      · exact f31 _ (Or.inl (bi_f h2))
  unfold wp_X9_send
  refine ⟨by decide, ?_⟩
  rw [e_isSeeker, e26]
  by_cases h1 : zin a 0 (nI ns - 1)
  · refine b2t h1 ?_
    obtain ⟨s, hs, rfl⟩ := (zin_cnt (by omega)).mp h1
    refine ⟨vp_in_nI (by omega) (by decide), ?_⟩
    rw [nI_clamp (by omega)]
    intro q eq
    have eq : q = 2 + 12 + 4 + s := eq
    obtain ⟨m1, m2⟩ := h.mr.2.2.1 s (by rw [t3]; exact hs)
    have f55 : ¬ (w = 0 ∧ zin v 0 9) → b_X9_send_55 0 (fun r M1 => wp_X10_send 120 (nI s) w v M1 (fun r2 M2 => r = r2 ∧ INV (n + 1) M2)) w v q M := by
      intro hn0
      unfold b_X9_send_55 b_X9_send_85
      refine ⟨fun z => bad (fun y => ?_), fun z => ?_⟩
      · rcases y.2 with y | y
        · exact hn0 y
        · exact z y.1
      · subst z
        rw [e_isWithin]
        by_cases h2 : zin v 0 99
        · refine b1t h2 ?_
          intro x ex M1 e1
          have e121 : M1 121 = M 121 := by rw [e1, eq]; exact mu_ne (by omega)
          unfold wp_X10_send
          refine ⟨by decide, fun _ => ⟨fun z => absurd rfl z, fun _ => ?_⟩, fun z => absurd z (by decide)⟩
          rw [e_in]
          refine b1t h2 ?_
          unfold b_X10_send_31
          rw [e_mSeeker, e121, hR.1.1]
          refine b1t h1 ⟨fun z => absurd z (by decide), fun _ => ?_⟩
          rw [show (18 : Int32) = nI 18 from rfl, show (2 : Int32) = nI 2 from rfl, pk_mul, nI_add, nI_1]
          refine sp_becomes (by omega) ⟨?_, ?_⟩
          · rw [ex, eq, e121, m2, show 18 + 2 * s + 1 = 19 + 2 * s from by omega]
          · refine h.one (by omega) (by omega) (h.2.1.1.upd (fun a b c hR => ?_) (by omega)) (by rw [e1, eq]; exact h.mr.seeker (w := 1) (by decide) (by omega) (by omega)) (by rw [e1, eq]; exact only.mu ⟨by omega, by omega⟩)
            exact hR.str ((zin_nI (n := 99) (by decide)).mp h2) (by have := hR.tn3; omega)
        · exact b1f h2 (bad (fun y => y.2.elim (fun y => absurd y.1 (by decide)) (fun y => h2 y.2)))
    refine ⟨fun z => f55 (fun y => z y.1), fun z => ?_⟩
    subst z
    rw [e_isCell]
    by_cases h2 : zin v 0 9
    · refine b1t h2 ?_
      intro x ex M1 e1
      have e121 : M1 121 = M 121 := by rw [e1, eq]; exact mu_ne (by omega)
      unfold wp_X10_send
      refine ⟨by decide, fun z => absurd rfl z, fun _ => ?_⟩
      rw [e_mCell, bi_t h2]
      unfold b_X10_send_31
      rw [e_mSeeker, e121, hR.1.1]
      refine b1t h1 ⟨fun z => absurd z (by decide), fun _ => ?_⟩
      rw [show (18 : Int32) = nI 18 from rfl, show (2 : Int32) = nI 2 from rfl, pk_mul, nI_add, show (0 : Int32) = nI 0 from rfl, nI_add]
      refine sp_becomes (by omega) ⟨?_, ?_⟩
      · rw [ex, eq, e121, m1]; rfl
      · refine h.one (k := 18 + 2 * s + 0) (by omega) (by omega) (h.2.1.1.upd (fun a b c hR => ?_) (by omega)) (by rw [e1, eq]; exact h.mr.seeker (w := 0) (by decide) (by omega) (by omega)) (by rw [e1, eq]; exact only.mu ⟨by omega, by omega⟩)
        exact hR.at ((zin_nI (n := 9) (by decide)).mp h2) (by have := hR.tn3; omega)
    · exact b1f h2 (f55 (fun y => h2 y.2))
  · exact b2f h1 (bad (fun z => h1 z.1))
theorem call_told {n : Nat} {M : Mem} (h : INV n M) (a : Int32) : wp_X9_told 0 a M (fun r M1 => wp_X10_told 120 a M1 (fun r2 M2 => r = r2 ∧ INV (n + 1) M2)) := by
  have bad : ¬ zin a 1 5 → wp_X9_refuse 0 1 M (fun r M1 => wp_X10_told 120 a M1 (fun r2 M2 => r = r2 ∧ INV (n + 1) M2)) := by
    intro hb
    refine sp_refuse (k := 1) (by decide) (by decide) ?_
    unfold wp_X10_told
    refine ⟨by decide, ?_⟩
    rw [e_in]
    exact b1f hb (fin_err (e := -1000000001) h (k := 1) (by decide) (by decide) rfl)
  unfold wp_X9_told b_X9_told_19
  refine ⟨by decide, ?_⟩
  by_cases h1 : a < 1
  · exact br_t h1 (bad (fun z => nlt_le.mpr h1 z.1))
  · refine br_f h1 ?_
    by_cases h2 : (5 : Int32) < a
    · exact br_t h2 (bad (fun z => nlt_le.mpr h2 z.2))
    · refine br_f h2 ?_
      have hz : zin a 1 5 := ⟨nle_lt.mp h1, nle_lt.mp h2⟩
      have hz0 : zin a 0 5 := ⟨i_le.mpr (Int.le_trans (by decide) (i_le.mp hz.1)), hz.2⟩
      obtain ⟨k, hk, rfl⟩ := (zin_nI (n := 5) (by decide)).mp hz0
      have hk1 : 1 ≤ k := by
        have := hz.1
        rw [show (1 : Int32) = nI 1 from rfl, nI_leI (by decide) (by omega)] at this
        exact this
      refine ⟨vp_in_nI (by omega) (by decide), ?_⟩
      rw [nI_clamp (by omega)]
      unfold wp_X10_told
      refine ⟨by decide, ?_⟩
      rw [e_in]
      refine b1t hz ⟨vp_in_nI (by omega) (by decide), ?_⟩
      rw [nI_clamp (by omega)]
      exact ⟨h.1.2.2.2.2.1 k hk1 hk, h.pure⟩
theorem call_seed {n : Nat} {M : Mem} (h : INV n M) (v : Int32) : wp_X9_seed 0 v M (fun r M1 => wp_X10_seed 120 v M1 (fun r2 M2 => r = r2 ∧ INV (n + 1) M2)) := by
  unfold wp_X9_seed
  refine ⟨by decide, ?_⟩
  intro x ex M1 e1
  unfold wp_X10_seed
  refine ⟨by decide, ?_⟩
  intro y ey M2 e2
  have e121 : M1 121 = M 121 := by rw [e1]; exact mu_ne (by decide)
  refine ⟨?_, ?_⟩
  · rw [ex, ey, show M1 (120 + 1) = M 121 from e121]; exact h.1.1.1
  · obtain ⟨ns, nk, h0, nt, nw, hR, hh, ht, hw, hb⟩ := h.2.1.1
    have hR' : RO (upd (M 121) 1 v) ns nk h0 := by
      obtain ⟨⟨a1, a2⟩, ⟨b1, b2⟩, ⟨c1, c2⟩, d, e, f, g, i⟩ := hR
      refine ⟨⟨by rw [upd_off (by omega)]; exact a1, a2⟩, ⟨by rw [upd_off (by omega)]; exact b1, b2⟩, ⟨by rw [upd_off (by omega)]; exact c1, c2⟩, fun c' hc' => ?_, fun s hs => ?_, fun k hk => ?_, ?_, ?_⟩
      · rw [upd_off (by omega)]; exact d c' hc'
      · rw [upd_off (by omega), upd_off (by omega)]; exact e s hs
      · rw [upd_off (by omega), upd_off (by omega), upd_off (by omega), upd_off (by omega), upd_off (by omega), upd_off (by omega)]; exact f k hk
      · rw [upd_off (by omega), show (fun j => upd (M 121) 1 v (142 + j)) = (fun j => M 121 (142 + j)) from funext fun j => upd_off (by omega)]; exact g
      · rw [upd_off (by omega), show (fun j => upd (M 121) 1 v (192 + j)) = (fun j => M 121 (192 + j)) from funext fun j => upd_off (by omega)]; exact i
    have hRW : RW (upd (M 121) 1 v) := RW.ro (ns := 0) (nk := 0) (hr := 0) h.2.1.1 hR' hh (fun i hi => upd_off (by omega))
    have hMR : MR M1 2 (upd (M 121) 1 v) := by
      have hk : MR M1 2 (M 121) := h.mr.kept (by rw [hR.tn3]; exact hR.1.2) (by rw [hR.tn2]; exact hR.2.1.2) (fun b h1 h2 _ => by rw [e1, mu_ne (by omega)])
      obtain ⟨⟨a1, a2, a3⟩, b, d, e, ⟨f1, f2, f3⟩, ⟨g1, g2, g3⟩⟩ := hk
      refine ⟨⟨by rw [upd_off (by omega)]; exact a1, by rw [upd_off (by omega)]; exact a2, by rw [upd_off (by omega)]; exact a3⟩, fun c' hc' => ?_, fun i hi => ?_, fun i hi k hk => ?_, ⟨f1, ?_, fun j hj => ?_⟩, ⟨g1, ?_, fun j hj => ?_⟩⟩
      · rw [upd_off (by omega)]; exact b c' hc'
      · rw [upd_off (by omega)] at hi
        rw [upd_off (by omega), upd_off (by omega)]; exact d i hi
      · rw [upd_off (by omega)] at hi
        rw [upd_off (by omega)]; exact e i hi k hk
      · rw [upd_off (by omega)]; exact f2
      · rw [upd_off (by omega)] at hj
        dsimp only; rw [upd_off (by omega)]; exact f3 j hj
      · rw [upd_off (by omega)]; exact g2
      · rw [upd_off (by omega)] at hj
        dsimp only; rw [upd_off (by omega)]; exact g3 j hj
    refine h.row (r := upd (M 121) 1 v) (M1 := M1) hRW ⟨by rw [e1, mu_hit, upd_hit], hMR, ?_, ?_⟩ (fun b h1 h2 _ => by rw [e1, mu_ne (by omega)]) (fun b hb => by rw [e2, mu_ne (by omega)]) (sameM.upd (fun b h1 h2 => by rw [e2, mu_ne (by omega), e1, mu_ne (by omega)])) (by rw [e2, show (120 + 1 : Nat) = 121 from rfl, mu_same, e121]) (fun i hi => ?_)
    · refine ⟨by rw [e1, mu_ne (by omega), upd_off (by omega)]; exact h.1.1.2.2.1.1, fun j hj => ?_⟩
      rw [upd_off (by omega)] at hj
      dsimp only
      rw [e1, mu_ne (by omega), upd_off (by omega)]; exact h.1.1.2.2.1.2 j hj
    · refine ⟨by rw [e1, mu_ne (by omega), upd_off (by omega)]; exact h.1.1.2.2.2.1, fun j hj => ?_⟩
      rw [upd_off (by omega)] at hj
      dsimp only
      rw [e1, mu_ne (by omega), upd_off (by omega)]; exact h.1.1.2.2.2.2 j hj
    · rw [e2]
      refine ⟨?_, ?_, ?_⟩
      · rw [show (120 + 1 : Nat) = 121 from rfl, mu_off (by omega), e121]; exact h.z i hi
      · rw [mu_ne (by decide), e1, mu_ne (by decide)]; exact (h.2.2 i hi).2.1
      · rw [mu_ne (by decide), e1, mu_ne (by decide)]; exact (h.2.2 i hi).2.2
