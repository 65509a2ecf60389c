def mI (i : Nat) : Prop := i ≠ 1 ∧ i ≠ 4 ∧ i ≠ 5 ∧ (i < 72 ∨ 142 ≤ i)
theorem MR.ext {M : Mem} {o : Nat} {r r' : Nat → Int32} (h : MR M o r) (t : tn (r 3) ≤ 6 ∧ tn (r 2) ≤ 7) (e : ∀ i, mI i → r' i = r i) : MR M o r' := by
  have E : ∀ i, (i ≠ 1 ∧ i ≠ 4 ∧ i ≠ 5 ∧ (i < 72 ∨ 142 ≤ i)) → r' i = r i := e
  obtain ⟨⟨a1, a2, a3⟩, b, d, f, ⟨f1, f2, f3⟩, ⟨g1, g2, g3⟩⟩ := h
  refine ⟨⟨by rw [E _ (by omega)]; exact a1, by rw [E _ (by omega)]; exact a2, by rw [E _ (by omega)]; exact a3⟩, fun c' hc' => ?_, fun i hi => ?_, fun i hi k hk => ?_, ⟨f1, ?_, fun j hj => ?_⟩, ⟨g1, ?_, fun j hj => ?_⟩⟩
  · rw [E _ (by omega)]; exact b c' hc'
  · rw [E _ (by omega)] at hi
    rw [E _ (by omega), E _ (by omega)]; exact d i hi
  · rw [E _ (by omega)] at hi
    rw [E _ (by omega)]; exact f i hi k hk
  · rw [E _ (by omega)]; exact f2
  · rw [E _ (by omega)] at hj
    dsimp only; rw [E _ (by omega)]; exact f3 j hj
  · rw [E _ (by omega)]; exact g2
  · rw [E _ (by omega)] at hj
    dsimp only; rw [E _ (by omega)]; exact g3 j hj
theorem RO.ext {r r' : Nat → Int32} {ns nk hr : Nat} (h : RO r ns nk hr) (e : ∀ i, mI i → r' i = r i) : RO r' ns nk hr := by
  have E : ∀ i, (i ≠ 1 ∧ i ≠ 4 ∧ i ≠ 5 ∧ (i < 72 ∨ 142 ≤ i)) → r' i = r i := e
  obtain ⟨⟨a1, a2⟩, ⟨b1, b2⟩, ⟨c1, c2⟩, d, f, g, p, i⟩ := h
  refine ⟨⟨by rw [E _ (by omega)]; exact a1, a2⟩, ⟨by rw [E _ (by omega)]; exact b1, b2⟩, ⟨by rw [E _ (by omega)]; exact c1, c2⟩, fun c' hc' => ?_, fun s hs => ?_, fun k hk => ?_, ?_, ?_⟩
  · rw [E _ (by omega)]; exact d c' hc'
  · rw [E _ (by omega), E _ (by omega)]; exact f s hs
  · rw [E _ (by omega), E _ (by omega), E _ (by omega), E _ (by omega), E _ (by omega), E _ (by omega)]; exact g k hk
  · rw [E _ (by omega), show (fun j => r' (142 + j)) = (fun j => r (142 + j)) from funext fun j => E _ (by omega)]; exact p
  · rw [E _ (by omega), show (fun j => r' (192 + j)) = (fun j => r (192 + j)) from funext fun j => E _ (by omega)]; exact i
/-- the tape's or the waiting numbers' part of the row changed -/
theorem INV.tape {n : Nat} {M M1 M2 : Mem} {r : Nat → Int32} (h : INV n M) (hr : RW r) (e : ∀ i, mI i → r i = M 121 i) (hz1 : r 1 = M 121 1) (h1 : RR M1 31 (r 4) (fun j => r (72 + j))) (h2 : RR M1 33 (r 5) (fun j => r (122 + j))) (hc : ∀ b, b < 120 → ¬ (31 ≤ b ∧ b < 35) → ¬ scC b → M1 b = M b) (h3 : ∀ b, b < 120 → M2 b = M1 b) (hs : sameM M (fun b => if b = 121 then M 121 else M2 b)) (e2 : M2 121 = r) (hz : ∀ i, 242 ≤ i → M2 123 i = 0) : INV (n + 1) M2 := by
  have t := h.2.1.1.t
  have hk : MR M1 2 (M 121) := h.mr.kept t.1 t.2 (fun b hb1 hb2 hb3 => hc b (by omega) (by omega) (fun z => by
    rcases z with z | z | z | z | z | z
    · omega
    · omega
    · omega
    · omega
    · exact hb3 z
    · unfold scO at z; omega))
  refine h.row hr ⟨?_, hk.ext t e, h1, h2⟩ (fun b hb1 hb2 hb3 => hc b hb1 (by omega) hb3) h3 hs e2 (fun i hi => ?_)
  · rw [hc 1 (by omega) (by omega) (by unfold scC scO; omega), hz1]; exact h.1.1.1
  · have e122 := hs.2.1
    simp at e122
    rw [e2, e i (by unfold mI; omega), e122]
    exact ⟨h.z i hi, (h.2.2 i hi).2.1, hz i hi⟩
theorem call_tell {n : Nat} {M : Mem} (h : INV n M) (v : Int32) : wp_X9_tell 0 v M (fun r M1 => wp_X10_tell 120 v M1 (fun r2 M2 => r = r2 ∧ INV (n + 1) M2)) := by
  obtain ⟨ns, nk, h0, nt, nw, hR, hh, ht, hw, hb⟩ := id h.2.1.1
  have e33 : M 33 1 = nI nw := h.1.1.2.2.2.1.trans hw.1
  unfold wp_X9_tell
  refine ⟨by decide, ?_⟩
  by_cases h20 : nw < 20
  · refine sp_append (h := 33) (n := nw) (by decide) e33 (by rw [show lnT (33 + 1) = 20 from by decide]; exact h20) (by decide) ?_
    refine ⟨fun z => absurd z (by decide), fun _ => ?_⟩
    rw [mu_hit]
    obtain ⟨M1, e1⟩ : ∃ z, z = mu (mu M (33 + 1) nw v) 33 1 (nI (nw + 1)) := ⟨_, rfl⟩
    rw [← e1]
    have hi : ∀ b, 120 ≤ b → M1 b = M b := fun b hb => by rw [e1, mu_ne (by omega), mu_ne (by omega)]
    unfold wp_X10_tell
    refine ⟨by decide, ?_⟩
    rw [show M1 (120 + 1) = M 121 from hi 121 (by decide), hw.1]
    refine ⟨fun _ => ?_, fun z => absurd z (fun z => by rw [show (20 : Int32) = nI 20 from rfl, nI_eq (by omega) (by decide)] at z; omega)⟩
    rw [show (122 : Int32) = nI 122 from rfl, nI_add]
    refine ⟨vp_in_nI (by omega) (by decide), ?_⟩
    rw [nI_clamp (by omega)]
    intro M5 e5 M8 e8
    have f5 : M5 (120 + 1) 5 = nI nw := by rw [e5, mu_off (by omega), show M1 (120 + 1) = M 121 from hi 121 (by decide)]; exact hw.1
    rw [f5, nI_1] at e8
    have f8 : M8 (120 + 1) 5 = nI (nw + 1) := by rw [e8]; exact mu_hit
    rw [f8]
    refine ⟨rfl, ?_⟩
    obtain ⟨r', er⟩ : ∃ z, z = upd (upd (M 121) (122 + nw) v) 5 (nI (nw + 1)) := ⟨_, rfl⟩
    have E : ∀ i, i ≠ 5 → i ≠ 122 + nw → r' i = M 121 i := fun i a b => by rw [er, upd_off a, upd_off b]
    have r5 : r' 5 = nI (nw + 1) := by rw [er]; exact upd_hit
    have hRW : RW r' := ⟨ns, nk, h0, nt, nw + 1, hR.ext (fun i hi => by unfold mI at hi; exact E i (by omega) (by omega)), hh, ⟨by rw [E _ (by omega) (by omega)]; exact ht.1, ht.2⟩, ⟨r5, by omega⟩, fun j hj => by rw [E _ (by omega) (by omega)]; exact hb j hj⟩
    refine h.tape (r := r') (M1 := M1) hRW (fun i hi => by unfold mI at hi; exact E i (by omega) (by omega)) (E 1 (by omega) (by omega)) ?_ ?_ (fun b hb1 hb2 _ => by rw [e1, mu_ne (by omega), mu_ne (by omega)]) (fun b hb => by rw [e8, mu_ne (by omega), e5, mu_ne (by omega)]) (sameM.upd (fun b hb1 hb2 => by rw [e8, mu_ne (by omega), e5, mu_ne (by omega)]; exact hi b hb1)) ?_ (fun i hi2 => ?_)
    · rw [E 4 (by omega) (by omega)]
      refine ⟨by rw [e1, mu_ne (by omega), mu_ne (by omega)]; exact h.1.1.2.2.1.1, fun j hj => ?_⟩
      have hj2 := hj
      rw [ht.1, tn, nI_clamp (by omega)] at hj2
      dsimp only
      rw [e1, mu_ne (by omega), mu_ne (by omega), E _ (by omega) (by omega)]; exact h.1.1.2.2.1.2 j hj
    · rw [r5]
      refine ⟨by rw [e1]; exact mu_hit, fun j hj => ?_⟩
      rw [tn, nI_clamp (by omega)] at hj
      dsimp only
      by_cases q : j = nw
      · subst q; rw [e1, mu_ne (by omega), mu_hit, er, upd_off (by omega), upd_hit]
      · rw [e1, mu_ne (by omega), mu_off q, E _ (by omega) (by omega)]; exact h.1.1.2.2.2.2 j (by rw [hw.1, tn, nI_clamp (by omega)]; omega)
    · rw [e8, show (120 + 1 : Nat) = 121 from rfl, mu_same, e5, show (120 + 1 : Nat) = 121 from rfl, mu_same, hi 121 (by decide), er]
    · rw [e8, mu_ne (by decide), e5, mu_ne (by decide), hi 123 (by decide)]; exact (h.2.2 i hi2).2.2
  · have e20 : nw = 20 := by omega
    refine sp_appendFull (h := 33) (n := nw) (by decide) e33 (by rw [show lnT (33 + 1) = 20 from by decide]; omega) (by omega) ?_
    refine ⟨fun _ => ?_, fun z => absurd rfl z⟩
    refine sp_refuse (k := 4) (by decide) (by decide) ?_
    unfold wp_X10_tell
    refine ⟨by decide, ?_⟩
    rw [show (mu M 107 4 (M 107 4 + 1)) (120 + 1) = M 121 from mu_ne (by decide), hw.1, e20]
    exact ⟨fun z => absurd rfl z, fun _ => fin_err (e := -1000000004) h (k := 4) (by decide) (by decide) rfl⟩
theorem km_all : ∀ k, k ≤ 69 → nI k / 10 = nI (k / 10) ∧ irm (nI k) 10 = nI (k % 10) := by decide
theorem mark_all : ∀ n, n ≤ 6 → ish 1 (nI n) - 1 = nI (2 ^ n - 1) := by decide
theorem mark_zb {a : Int32} {ns : Nat} (hn : ns ≤ 6) (h : zin a 0 (ish 1 (nI ns) - 1)) : zb a 63 := by
  rw [mark_all ns hn] at h
  have h2 : 2 ^ ns ≤ 2 ^ 6 := Nat.pow_le_pow_right (by decide) hn
  obtain ⟨k, hk, e⟩ := (zin_nI (by omega)).mp h
  exact ⟨k, by omega, e⟩
theorem RO.addSheep {r r' : Nat → Int32} {ns nk hr : Nat} (h : RO r ns nk hr) (h7 : nk < 7) (e2 : r' 2 = nI (nk + 1)) (e : ∀ i, i ≠ 2 → (i < 30 + 6 * nk ∨ 36 + 6 * nk ≤ i) → r' i = r i) (hf : ∀ w, w < 6 → zb (r' (30 + 6 * nk + w)) (shB w)) : RO r' ns (nk + 1) hr := by
  obtain ⟨⟨a1, a2⟩, ⟨b1, b2⟩, ⟨c1, c2⟩, d, f, g, p, i⟩ := h
  refine ⟨⟨by rw [e _ (by omega) (by omega)]; exact a1, a2⟩, ⟨e2, by omega⟩, ⟨by rw [e _ (by omega) (by omega)]; exact c1, c2⟩, fun c' hc' => ?_, fun s hs => ?_, fun k hk => ?_, ?_, ?_⟩
  · rw [e _ (by omega) (by omega)]; exact d c' hc'
  · rw [e _ (by omega) (by omega), e _ (by omega) (by omega)]; exact f s hs
  · by_cases q : k = nk
    · subst q; exact ⟨hf 0 (by decide), hf 1 (by decide), hf 2 (by decide), hf 3 (by decide), hf 4 (by decide), hf 5 (by decide)⟩
    · rw [e _ (by omega) (by omega), e _ (by omega) (by omega), e _ (by omega) (by omega), e _ (by omega) (by omega), e _ (by omega) (by omega), e _ (by omega) (by omega)]; exact g k (by omega)
  · rw [e 6 (by omega) (by omega), show (fun j => r' (142 + j)) = (fun j => r (142 + j)) from funext fun j => e _ (by omega) (by omega)]; exact p
  · rw [e 7 (by omega) (by omega), show (fun j => r' (192 + j)) = (fun j => r (192 + j)) from funext fun j => e _ (by omega) (by omega)]; exact i
theorem MR.addSheep {M M' : Mem} {o ns nk hr : Nat} {r r' : Nat → Int32} (h : MR M o r) (hR : RO r ns nk hr) (h7 : nk < 7) (e2 : r' 2 = nI (nk + 1)) (e : ∀ i, i ≠ 2 → (i < 30 + 6 * nk ∨ 36 + 6 * nk ≤ i) → r' i = r i) (m7 : M' o 7 = nI (nk + 1)) (m68 : M' o 6 = M o 6 ∧ M' o 8 = M o 8) (hm : ∀ b, b ≠ o → b ≠ o + 13 + 9 + nk → M' b = M b) (hf : ∀ w, w < 6 → M' (o + 13 + 9 + nk) w = r' (30 + 6 * nk + w)) : MR M' o r' := by
  have n6 := hR.1.2
  have t2 := hR.tn2
  have t3 := hR.tn3
  obtain ⟨⟨a1, a2, a3⟩, b', d, f, ⟨f1, f2, f3⟩, ⟨g1, g2, g3⟩⟩ := h
  refine ⟨⟨by rw [m68.2, e _ (by omega) (by omega)]; exact a1, by rw [m7, e2], by rw [m68.1, e _ (by omega) (by omega)]; exact a3⟩, fun c' hc' => ?_, fun i hi => ?_, fun i hi k hk => ?_, ⟨?_, ?_, fun j hj => ?_⟩, ⟨?_, ?_, fun j hj => ?_⟩⟩
  · rw [hm _ (by omega) (by omega), e _ (by omega) (by omega)]; exact b' c' hc'
  · rw [e _ (by omega) (by omega), t3] at hi
    rw [hm _ (by omega) (by omega), e _ (by omega) (by omega), e _ (by omega) (by omega)]; exact d i (by rw [t3]; exact hi)
  · rw [e2, tn, nI_clamp (by omega)] at hi
    by_cases q : i = nk
    · subst q; exact hf k hk
    · rw [hm _ (by omega) (by omega), e _ (by omega) (by omega)]; exact f i (by rw [t2]; omega) k hk
  · rw [hm _ (by omega) (by omega)]; exact f1
  · rw [hm _ (by omega) (by omega), e _ (by omega) (by omega)]; exact f2
  · rw [e _ (by omega) (by omega)] at hj
    rw [hm _ (by omega) (by omega)]; dsimp only; rw [e _ (by omega) (by omega)]; exact f3 j hj
  · rw [hm _ (by omega) (by omega)]; exact g1
  · rw [hm _ (by omega) (by omega), e _ (by omega) (by omega)]; exact g2
  · rw [e _ (by omega) (by omega)] at hj
    rw [hm _ (by omega) (by omega)]; dsimp only; rw [e _ (by omega) (by omega)]; exact g3 j hj
theorem w6 {w : Nat} (h : w < 6) : w = 0 ∨ w = 1 ∨ w = 2 ∨ w = 3 ∨ w = 4 ∨ w = 5 := by omega
theorem call_sheep {n : Nat} {M : Mem} (h : INV n M) (km c wm mk : Int32) : wp_X9_sheep 0 km c wm mk M (fun r M1 => wp_X10_sheep 120 km c wm mk M1 (fun r2 M2 => r = r2 ∧ INV (n + 1) M2)) := by
  obtain ⟨ns, nk, hr, hR, hh⟩ := h.ro
  have n6 := hR.1.2
  have n7 := hR.2.1.2
  have e26 : M 2 6 = nI ns := h.mr.1.2.2.trans hR.1.1
  have bad : ¬ (zin km 0 69 ∧ zin c 0 9 ∧ zin wm 0 99 ∧ zin mk 0 (ish 1 (nI ns) - 1)) → wp_X9_refuse 0 1 M (fun r M1 => wp_X10_sheep 120 km c wm mk M1 (fun r2 M2 => r = r2 ∧ INV (n + 1) M2)) := by
    intro hb
    refine sp_refuse (k := 1) (by decide) (by decide) ?_
    unfold wp_X10_sheep b_X10_sheep_36
    refine ⟨by decide, ?_⟩
    rw [e_in, e_mCell, e_in, e_mMark, mu_ne (by decide), hR.1.1]
    have fe := fin_err (e := -1000000001) h (k := 1) (by decide) (by decide) rfl
    by_cases h1 : zin km 0 69
    · by_cases h2 : zin c 0 9
      · by_cases h3 : zin wm 0 99
        · exact b1t h1 (b1t h2 (b1t h3 (b2f (fun z => hb ⟨h1, h2, h3, z⟩) fe)))
        · exact b1t h1 (b1t h2 (b1f h3 fe))
      · exact b1t h1 (b1f h2 fe)
    · exact b1f h1 fe
  unfold wp_X9_sheep b_X9_sheep_32
  refine ⟨by decide, ?_⟩
  rw [e_isKindWithM, e_isCell, e_isWithin, e_isMark, e26]
  by_cases h1 : zin km 0 69
  · refine b1t h1 ?_
    by_cases h2 : zin c 0 9
    · refine b1t h2 ?_
      by_cases h3 : zin wm 0 99
      · refine b1t h3 ?_
        by_cases h4 : zin mk 0 (ish 1 (nI ns) - 1)
        · refine b2t h4 ?_
          intro x ex
          rw [show M (0 + 1 + 1) 7 = nI nk from h.mr.1.2.1.trans hR.2.1.1] at ex
          subst ex
          by_cases h7 : nk < 7
          · refine br_t (show nI nk < 7 from nI_lt (b := 7) h7 (by decide)) ⟨vp_in_nI h7 (by decide), ?_⟩
            rw [nI_clamp (by omega)]
            intro q eq N1 f1 N2 f2 N3 f3 N4 f4 N5 f5 N6 f6 N7 f7
            rw [nI_1] at f7
            have eq : q = 2 + 13 + 9 + nk := eq
            have away : ∀ b, b ≠ 2 → b ≠ q → N7 b = M b := fun b g1 g2 => by rw [f7, mu_ne g1, f6, mu_ne g2, f5, mu_ne g2, f4, mu_ne g2, f3, mu_ne g2, f2, mu_ne g2, f1, mu_ne g2]
            have hi : ∀ b, 120 ≤ b → N7 b = M b := fun b hb => away b (by omega) (by omega)
            unfold wp_X10_sheep
            refine ⟨by decide, ?_⟩
            rw [e_in, e_mCell, e_in, e_mMark, hi 121 (by decide), hR.1.1]
            refine b1t h1 (b1t h2 (b1t h3 (b2t h4 ?_)))
            rw [hR.2.1.1]
            refine ⟨fun _ => ?_, fun z => absurd z (fun z => by rw [show (7 : Int32) = nI 7 from rfl, nI_eq (by omega) (by decide)] at z; omega)⟩
            intro x ex
            subst ex
            refine sp_gets (w := 0) h7 (by decide) (sp_gets (w := 1) h7 (by decide) (sp_gets (w := 2) h7 (by decide) (sp_gets (w := 3) h7 (by decide) (sp_gets (w := 4) h7 (by decide) (sp_gets (w := 5) h7 (by decide) ?_)))))
            obtain ⟨P, eP⟩ : ∃ z, z = mu (mu (mu (mu (mu (mu N7 121 (30 + 6 * nk + 0) (km / 10)) 121 (30 + 6 * nk + 1) (irm km 10)) 121 (30 + 6 * nk + 2) c) 121 (30 + 6 * nk + 3) wm) 121 (30 + 6 * nk + 4) mk) 121 (30 + 6 * nk + 5) 0 := ⟨_, rfl⟩
            rw [← eP]
            intro P2 eP2
            have P121 : ∀ i, (i < 30 + 6 * nk ∨ 36 + 6 * nk ≤ i) → P 121 i = M 121 i := fun i hi2 => by
              rw [eP, mu_off (by omega), mu_off (by omega), mu_off (by omega), mu_off (by omega), mu_off (by omega), mu_off (by omega), hi 121 (by decide)]
            have Pb : ∀ b, b ≠ 121 → P b = N7 b := fun b hb => by rw [eP, mu_ne hb, mu_ne hb, mu_ne hb, mu_ne hb, mu_ne hb, mu_ne hb]
            have F : ∀ w, w < 6 → N7 q w = P 121 (30 + 6 * nk + w) := by
              intro w hw
              have hq2 : q ≠ 2 := by omega
              rw [f7, mu_ne hq2, eP]
              rcases w6 hw with rfl | rfl | rfl | rfl | rfl | rfl
              · rw [f6, mu_off (by decide), f5, mu_off (by decide), f4, mu_off (by decide), f3, mu_off (by decide), f2, mu_off (by decide), f1, mu_hit, mu_off (by omega), mu_off (by omega), mu_off (by omega), mu_off (by omega), mu_off (by omega), mu_hit]
              · rw [f6, mu_off (by decide), f5, mu_off (by decide), f4, mu_off (by decide), f3, mu_off (by decide), f2, mu_hit, mu_off (by omega), mu_off (by omega), mu_off (by omega), mu_off (by omega), mu_hit]
              · rw [f6, mu_off (by decide), f5, mu_off (by decide), f4, mu_off (by decide), f3, mu_hit, mu_off (by omega), mu_off (by omega), mu_off (by omega), mu_hit]
              · rw [f6, mu_off (by decide), f5, mu_off (by decide), f4, mu_hit, mu_off (by omega), mu_off (by omega), mu_hit]
              · rw [f6, mu_off (by decide), f5, mu_hit, mu_off (by omega), mu_hit]
              · rw [f6, mu_hit, mu_hit]
            rw [show P (120 + 1) 2 = nI nk from by rw [show P (120 + 1) 2 = M 121 2 from P121 2 (by omega)]; exact hR.2.1.1, nI_1] at eP2
            refine ⟨rfl, ?_⟩
            have E2 : P2 121 2 = nI (nk + 1) := by rw [eP2]; exact mu_hit
            have Eo : ∀ i, i ≠ 2 → P2 121 i = P 121 i := fun i hi2 => by rw [eP2]; exact mu_off hi2
            have E : ∀ i, i ≠ 2 → (i < 30 + 6 * nk ∨ 36 + 6 * nk ≤ i) → P2 121 i = M 121 i := fun i g1 g2 => (Eo i g1).trans (P121 i g2)
            have Fv : ∀ w, w < 6 → zb (P2 121 (30 + 6 * nk + w)) (shB w) := by
              intro w hw
              rw [Eo _ (by omega), eP]
              obtain ⟨kk, hkk, rfl⟩ := (zin_nI (n := 69) (by decide)).mp h1
              rcases w6 hw with rfl | rfl | rfl | rfl | rfl | rfl
              · rw [mu_off (by omega), mu_off (by omega), mu_off (by omega), mu_off (by omega), mu_off (by omega), mu_hit, (km_all kk hkk).1]; exact ⟨kk / 10, show kk / 10 ≤ 6 by omega, rfl⟩
              · rw [mu_off (by omega), mu_off (by omega), mu_off (by omega), mu_off (by omega), mu_hit, (km_all kk hkk).2]; exact ⟨kk % 10, show kk % 10 ≤ 9 by omega, rfl⟩
              · rw [mu_off (by omega), mu_off (by omega), mu_off (by omega), mu_hit]; exact (zin_nI (n := 9) (by decide)).mp h2
              · rw [mu_off (by omega), mu_off (by omega), mu_hit]; exact (zin_nI (n := 99) (by decide)).mp h3
              · rw [mu_off (by omega), mu_hit]; exact mark_zb n6 h4
              · rw [mu_hit]; exact ⟨0, Nat.zero_le _, rfl⟩
            have hR' := hR.addSheep h7 E2 E Fv
            refine h.moor (r := P2 121) (M1 := N7) (RW.ro (ns := 0) (nk := 0) (hr := 0) h.2.1.1 hR' hh (fun i hi2 => E i (by omega) (by omega))) ?_ (fun b hb => away b (fun z => hb (by rw [z]; unfold mo; omega)) (fun z => hb (by rw [z, eq]; unfold mo; omega))) (fun i hi2 => E i (by omega) (by omega)) (fun b hb => by rw [eP2, mu_ne (by omega), Pb b (by omega)]) (fun b g1 g2 => by rw [eP2, mu_ne (by omega), Pb b g2]; exact hi b g1) rfl (fun i hi2 => by rw [E i (by omega) (by omega)]; exact h.z i hi2)
            refine h.mr.addSheep hR h7 E2 E (by rw [f7]; exact mu_hit) ⟨?_, ?_⟩ (fun b g1 g2 => away b g1 (by rw [eq]; exact g2)) (fun w hw => by rw [← eq, F w hw, Eo _ (by omega)])
            · rw [f7, mu_off (by decide), f6, mu_ne (by omega), f5, mu_ne (by omega), f4, mu_ne (by omega), f3, mu_ne (by omega), f2, mu_ne (by omega), f1, mu_ne (by omega)]
            · rw [f7, mu_off (by decide), f6, mu_ne (by omega), f5, mu_ne (by omega), f4, mu_ne (by omega), f3, mu_ne (by omega), f2, mu_ne (by omega), f1, mu_ne (by omega)]
          · have e7 : nk = 7 := by omega
            refine br_f (fun z => nI_nlt (a := nk) (b := 7) (by omega) (by omega) z) ?_
            refine sp_refuse (k := 4) (by decide) (by decide) ?_
            unfold wp_X10_sheep
            refine ⟨by decide, ?_⟩
            rw [e_in, e_mCell, e_in, e_mMark, mu_ne (by decide), hR.1.1]
            refine b1t h1 (b1t h2 (b1t h3 (b2t h4 ?_)))
            rw [hR.2.1.1, e7]
            exact ⟨fun z => absurd rfl z, fun _ => fin_err (e := -1000000004) h (k := 4) (by decide) (by decide) rfl⟩
        · exact b2f h4 (bad (fun z => h4 z.2.2.2))
      · exact b1f h3 (bad (fun z => h3 z.2.2.1))
    · exact b1f h2 (bad (fun z => h2 z.2.1))
  · exact b1f h1 (bad (fun z => h1 z.1))
