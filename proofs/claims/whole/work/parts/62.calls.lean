theorem zin_cnt {a : Int32} {n : Nat} (hn : n < 2 ^ 30) : zin a 0 (nI n - 1) ↔ ∃ k, k < n ∧ a = nI k := by
  cases n with
  | zero =>
    constructor
    · intro h
      have h1 := i_le.mp h.1
      have h2 := i_le.mp h.2
      have e : (nI 0 - 1).toInt = -1 := by decide
      have z : (0 : Int32).toInt = 0 := by decide
      omega
    · rintro ⟨k, hk, -⟩; omega
  | succ n =>
    rw [nI_pred, zin_nI (by omega)]
    constructor
    · rintro ⟨k, hk, e⟩; exact ⟨k, by omega, e⟩
    · rintro ⟨k, hk, e⟩; exact ⟨k, by omega, e⟩
theorem e107 {M : Mem} {k : Nat} {v : Int32} {b : Nat} (h : b ≠ 107) : mu M 107 k v b = M b := mu_ne h
theorem RO.addSeeker {r : Nat → Int32} {ns nk hr : Nat} {a b : Int32} (h : RO r ns nk hr) (h6 : ns < 6) (ha : zb a 9) (hb : zb b 99) : RO (upd (upd (upd r (18 + 2 * ns) a) (18 + 2 * ns + 1) b) 3 (nI (ns + 1))) (ns + 1) nk hr := by
  have U : ∀ i, i ≠ 3 → i ≠ 18 + 2 * ns → i ≠ 18 + 2 * ns + 1 → upd (upd (upd r (18 + 2 * ns) a) (18 + 2 * ns + 1) b) 3 (nI (ns + 1)) i = r i := fun i h1 h2 h3 => by rw [upd_off h1, upd_off h3, upd_off h2]
  obtain ⟨⟨a1, a2⟩, ⟨b1, b2⟩, ⟨c1, c2⟩, d, e, f, g, i⟩ := h
  refine ⟨⟨upd_hit, by omega⟩, ⟨by rw [U _ (by omega) (by omega) (by omega)]; exact b1, b2⟩, ⟨by rw [U _ (by omega) (by omega) (by omega)]; exact c1, c2⟩, fun c' hc' => ?_, fun s hs => ?_, fun k hk => ?_, ?_, ?_⟩
  · rw [U _ (by omega) (by omega) (by omega)]; exact d c' hc'
  · by_cases q : s = ns
    · subst q
      refine ⟨?_, ?_⟩
      · rw [upd_off (by omega), upd_off (by omega), upd_hit]; exact ha
      · rw [upd_off (by omega), show 19 + 2 * s = 18 + 2 * s + 1 from by omega, upd_hit]; exact hb
    · rw [U _ (by omega) (by omega) (by omega), U _ (by omega) (by omega) (by omega)]; exact e s (by omega)
  · rw [U _ (by omega) (by omega) (by omega), U _ (by omega) (by omega) (by omega), U _ (by omega) (by omega) (by omega), U _ (by omega) (by omega) (by omega), U _ (by omega) (by omega) (by omega), U _ (by omega) (by omega) (by omega)]; exact f k hk
  · rw [U 6 (by omega) (by omega) (by omega), show (fun j => upd (upd (upd r (18 + 2 * ns) a) (18 + 2 * ns + 1) b) 3 (nI (ns + 1)) (142 + j)) = (fun j => r (142 + j)) from funext fun j => U _ (by omega) (by omega) (by omega)]; exact g
  · rw [U 7 (by omega) (by omega) (by omega), show (fun j => upd (upd (upd r (18 + 2 * ns) a) (18 + 2 * ns + 1) b) 3 (nI (ns + 1)) (192 + j)) = (fun j => r (192 + j)) from funext fun j => U _ (by omega) (by omega) (by omega)]; exact i
theorem MR.addSeeker {M : Mem} {o ns nk hr : Nat} {r : Nat → Int32} {a b : Int32} (h : MR M o r) (hR : RO r ns nk hr) (h6 : ns < 6) : MR (mu (mu (mu M (o + 12 + 4 + ns) 0 a) (o + 12 + 4 + ns) 1 b) o 6 (nI (ns + 1))) o (upd (upd (upd r (18 + 2 * ns) a) (18 + 2 * ns + 1) b) 3 (nI (ns + 1))) := by
  have n7 := hR.2.1.2
  have U : ∀ i, i ≠ 3 → i ≠ 18 + 2 * ns → i ≠ 18 + 2 * ns + 1 → upd (upd (upd r (18 + 2 * ns) a) (18 + 2 * ns + 1) b) 3 (nI (ns + 1)) i = r i := fun i h1 h2 h3 => by rw [upd_off h1, upd_off h3, upd_off h2]
  have V : ∀ b', b' ≠ o → b' ≠ o + 12 + 4 + ns → (mu (mu (mu M (o + 12 + 4 + ns) 0 a) (o + 12 + 4 + ns) 1 b) o 6 (nI (ns + 1))) b' = M b' := fun b' h1 h2 => by rw [mu_ne h1, mu_ne h2, mu_ne h2]
  have t2 := hR.tn2
  have t3 := hR.tn3
  obtain ⟨⟨a1, a2, a3⟩, b', d, e, ⟨f1, f2, f3⟩, ⟨g1, g2, g3⟩⟩ := h
  refine ⟨⟨?_, ?_, by rw [mu_hit, upd_hit]⟩, fun c' hc' => ?_, fun i hi => ?_, fun i hi k hk => ?_, ⟨?_, ?_, fun j hj => ?_⟩, ⟨?_, ?_, fun j hj => ?_⟩⟩
  · rw [mu_off (by decide), mu_ne (by omega), mu_ne (by omega), U _ (by omega) (by omega) (by omega)]; exact a1
  · rw [mu_off (by decide), mu_ne (by omega), mu_ne (by omega), U _ (by omega) (by omega) (by omega)]; exact a2
  · rw [V _ (by omega) (by omega), U _ (by omega) (by omega) (by omega)]; exact b' c' hc'
  · rw [upd_hit, tn, nI_clamp (by omega)] at hi
    by_cases q : i = ns
    · subst q
      refine ⟨?_, ?_⟩
      · rw [mu_ne (by omega), mu_off (by decide), mu_hit, upd_off (by omega), upd_off (by omega), upd_hit]
      · rw [mu_ne (by omega), mu_hit, upd_off (by omega), show 19 + 2 * i = 18 + 2 * i + 1 from by omega, upd_hit]
    · rw [V _ (by omega) (by omega), U _ (by omega) (by omega) (by omega), U _ (by omega) (by omega) (by omega)]; exact d i (by rw [t3]; omega)
  · rw [U _ (by omega) (by omega) (by omega), t2] at hi
    rw [V _ (by omega) (by omega), U _ (by omega) (by omega) (by omega)]; exact e i (by rw [t2]; omega) k hk
  · rw [V _ (by omega) (by omega)]; exact f1
  · rw [V _ (by omega) (by omega), U _ (by omega) (by omega) (by omega)]; exact f2
  · rw [U _ (by omega) (by omega) (by omega)] at hj
    rw [V _ (by omega) (by omega)]; dsimp only; rw [U _ (by omega) (by omega) (by omega)]; exact f3 j hj
  · rw [V _ (by omega) (by omega)]; exact g1
  · rw [V _ (by omega) (by omega), U _ (by omega) (by omega) (by omega)]; exact g2
  · rw [U _ (by omega) (by omega) (by omega)] at hj
    rw [V _ (by omega) (by omega)]; dsimp only; rw [U _ (by omega) (by omega) (by omega)]; exact g3 j hj
theorem RW.ro {r r' : Nat → Int32} {ns nk hr ns' nk' hr' : Nat} (h : RW r) (hR' : RO r' ns' nk' hr') (hh : hr' ≤ 9999) (hi : ∀ i, (i = 4 ∨ i = 5 ∨ (72 ≤ i ∧ i < 122)) → r' i = r i) : RW r' := by
  obtain ⟨ns, nk, h0, nt, nw, hR0, -, ht, hw, hb⟩ := h
  refine ⟨ns', nk', hr', nt, nw, hR', hh, ⟨by rw [hi 4 (by omega)]; exact ht.1, ht.2⟩, ⟨by rw [hi 5 (by omega)]; exact hw.1, hw.2⟩, fun j hj => ?_⟩
  rw [hi _ (by omega)]
  exact hb j hj
theorem call_seeker {n : Nat} {M : Mem} (h : INV n M) (a v : Int32) : wp_X9_seeker 0 a v M (fun r M1 => wp_X10_seeker 120 a v M1 (fun r2 M2 => r = r2 ∧ INV (n + 1) M2)) := by
  obtain ⟨ns, nk, hr, hR, hh⟩ := h.ro
  have n6 := hR.1.2
  have bad : ¬ (zin a 0 9 ∧ zin v 0 99) → wp_X9_refuse 0 1 M (fun r M1 => wp_X10_seeker 120 a v M1 (fun r2 M2 => r = r2 ∧ INV (n + 1) M2)) := by
    intro hb
    refine sp_refuse (k := 1) (by decide) (by decide) ?_
    unfold wp_X10_seeker b_X10_seeker_17
    refine ⟨by decide, ?_⟩
    rw [e_mCell, e_in]
    have fe := fin_err (e := -1000000001) h (k := 1) (by decide) (by decide) rfl
    by_cases h1 : zin a 0 9
    · exact b1t h1 (b2f (fun z => hb ⟨h1, z⟩) fe)
    · exact b1f h1 fe
  unfold wp_X9_seeker b_X9_seeker_16
  refine ⟨by decide, ?_⟩
  rw [e_isCell, e_isWithin]
  by_cases h1 : zin a 0 9
  · refine b1t h1 ?_
    by_cases h2 : zin v 0 99
    · refine b2t h2 ?_
      intro x ex
      rw [show M (0 + 1 + 1) 6 = nI ns from h.mr.1.2.2.trans hR.1.1] at ex
      subst ex
      by_cases h6 : ns < 6
      · refine br_t (show nI ns < 6 from nI_lt (b := 6) h6 (by decide)) ⟨vp_in_nI h6 (by decide), ?_⟩
        rw [nI_clamp (by omega)]
        intro M1 e1
        refine ⟨vp_in_nI h6 (by decide), ?_⟩
        intro M2 e2 M3 e3
        rw [nI_1] at e3
        have em : M3 = mu (mu (mu M (2 + 12 + 4 + ns) 0 a) (2 + 12 + 4 + ns) 1 v) 2 6 (nI (ns + 1)) := by rw [e3, e2, e1]
        have hi : ∀ b, 120 ≤ b → M3 b = M b := fun b hb => by rw [em, mu_ne (by omega), mu_ne (by omega), mu_ne (by omega)]
        unfold wp_X10_seeker
        refine ⟨by decide, ?_⟩
        rw [e_mCell, e_in]
        refine b1t h1 (b2t h2 ?_)
        rw [show M3 (120 + 1) = M 121 from hi 121 (by decide), hR.1.1]
        refine ⟨fun _ => ?_, fun z => absurd z (fun z => by rw [show (6 : Int32) = nI 6 from rfl, nI_eq (by omega) (by decide)] at z; omega)⟩
        intro x ex
        subst ex
        rw [show (18 : Int32) = nI 18 from rfl, show (2 : Int32) = nI 2 from rfl, pk_mul, nI_add, nI_1]
        refine ⟨vp_in_nI (by omega) (by decide), ?_⟩
        rw [nI_clamp (by omega)]
        intro M4 e4
        refine ⟨vp_in_nI (by omega) (by decide), ?_⟩
        rw [nI_clamp (by omega)]
        intro M5 e5 M6 e6
        have f5 : M5 (120 + 1) 3 = nI ns := by rw [e5, mu_off (by omega), e4, mu_off (by omega), show M3 (120 + 1) = M 121 from hi 121 (by decide)]; exact hR.1.1
        rw [f5, nI_1] at e6
        refine ⟨rfl, ?_⟩
        refine h.moor (r := upd (upd (upd (M 121) (18 + 2 * ns) a) (18 + 2 * ns + 1) v) 3 (nI (ns + 1))) (M1 := M3) ?_ ?_ ?_ (fun i hi => ?_) (fun b hb => ?_) (fun b h3 h4 => ?_) ?_ (fun i hi => ?_)
        · exact RW.ro (ns := 0) (nk := 0) (hr := 0) h.2.1.1 (hR.addSeeker h6 ((zin_nI (n := 9) (by decide)).mp h1) ((zin_nI (n := 99) (by decide)).mp h2)) hh (fun i hi => by rw [upd_off (by omega), upd_off (by omega), upd_off (by omega)])
        · rw [em]; exact h.mr.addSeeker hR h6
        · rw [em]; exact ((only.mu ⟨by omega, by omega⟩).tr (only.mu ⟨by omega, by omega⟩)).tr (only.mu ⟨by omega, by omega⟩)
        · rw [upd_off (by omega), upd_off (by omega), upd_off (by omega)]
        · rw [e6, mu_ne (by omega), e5, mu_ne (by omega), e4, mu_ne (by omega)]
        · rw [e6, mu_ne (by omega), e5, mu_ne (by omega), e4, mu_ne (by omega)]; exact hi b h3
        · rw [e6, show (120 + 1 : Nat) = 121 from rfl, mu_same, e5, show (120 + 1 : Nat) = 121 from rfl, mu_same, e4, show (120 + 1 : Nat) = 121 from rfl, mu_same, hi 121 (by decide)]
        · rw [upd_off (by omega), upd_off (by omega), upd_off (by omega)]; exact h.z i hi
      · have e6 : ns = 6 := by omega
        refine br_f (fun z => nI_nlt (a := ns) (b := 6) (by omega) (by omega) z) ?_
        refine sp_refuse (k := 4) (by decide) (by decide) ?_
        unfold wp_X10_seeker
        refine ⟨by decide, ?_⟩
        rw [e_mCell, e_in]
        refine b1t h1 (b2t h2 ?_)
        rw [show (mu M 107 4 (M 107 4 + 1)) (120 + 1) = M 121 from mu_ne (by decide), hR.1.1, e6]
        exact ⟨fun z => absurd rfl z, fun _ => fin_err (e := -1000000004) h (k := 4) (by decide) (by decide) rfl⟩
    · exact b2f h2 (bad (fun z => h2 z.2))
  · exact b1f h1 (bad (fun z => h1 z.1))
theorem call_ofSeeker {n : Nat} {M : Mem} (h : INV n M) (a w : Int32) : wp_X9_ofSeeker 0 a w M (fun r M1 => wp_X10_ofSeeker 120 a w M1 (fun r2 M2 => r = r2 ∧ INV (n + 1) M2)) := by
  obtain ⟨ns, nk, hr, hR, hh⟩ := h.ro
  have n6 := hR.1.2
  have t3 := hR.tn3
  have e26 : M 2 6 = nI ns := h.mr.1.2.2.trans hR.1.1
  have bad : ¬ (zin a 0 (nI ns - 1) ∧ zin w 0 2) → wp_X9_refuse 0 1 M (fun r M1 => wp_X10_ofSeeker 120 a w M1 (fun r2 M2 => r = r2 ∧ INV (n + 1) M2)) := by
    intro hb
    refine sp_refuse (k := 1) (by decide) (by decide) ?_
    unfold wp_X10_ofSeeker b_X10_ofSeeker_17
    refine ⟨by decide, ?_⟩
    rw [e_mSeeker, e_in, mu_ne (by decide), hR.1.1]
    have fe := fin_err (e := -1000000001) h (k := 1) (by decide) (by decide) rfl
    by_cases h1 : zin a 0 (nI ns - 1)
    · exact b1t h1 (b2f (fun z => hb ⟨h1, z⟩) fe)
    · exact b1f h1 fe
  unfold wp_X9_ofSeeker
  refine ⟨by decide, ?_⟩
  rw [e_isSeeker, e26]
  by_cases h1 : zin a 0 (nI ns - 1)
  · refine b2t h1 ?_
    obtain ⟨s, hs, rfl⟩ := (zin_cnt (by omega)).mp h1
    refine ⟨fun z => ?_, fun z => ?_, fun z => ?_, fun z0 z1 z2 => ?_⟩
    · subst z
      refine ⟨vp_in_nI (by omega) (by decide), ?_⟩
      rw [nI_clamp (by omega)]
      unfold wp_X10_ofSeeker
      refine ⟨by decide, ?_⟩
      rw [e_mSeeker, e_in, hR.1.1]
      refine b1t h1 (b2t (by decide) (br_f (by decide) ?_))
      rw [show (18 : Int32) = nI 18 from rfl, show (2 : Int32) = nI 2 from rfl, pk_mul, nI_add, show (0 : Int32) = nI 0 from rfl, nI_add]
      refine ⟨vp_in_nI (by omega) (by decide), ?_⟩
      rw [nI_clamp (by omega)]
      exact ⟨(h.mr.2.2.1 s (by rw [t3]; exact hs)).1, h.pure⟩
    · subst z
      refine ⟨vp_in_nI (by omega) (by decide), ?_⟩
      rw [nI_clamp (by omega)]
      unfold wp_X10_ofSeeker
      refine ⟨by decide, ?_⟩
      rw [e_mSeeker, e_in, hR.1.1]
      refine b1t h1 (b2t (by decide) (br_f (by decide) ?_))
      rw [show (18 : Int32) = nI 18 from rfl, show (2 : Int32) = nI 2 from rfl, pk_mul, nI_add, nI_1]
      refine ⟨vp_in_nI (by omega) (by decide), ?_⟩
      rw [nI_clamp (by omega)]
      refine ⟨?_, h.pure⟩
      rw [show 18 + 2 * s + 1 = 19 + 2 * s from by omega]
      exact (h.mr.2.2.1 s (by rw [t3]; exact hs)).2
    · subst z
      refine sp_out (o := 2) (by decide) h.mr hR hs (fun M1 ho => ?_)
      have hi : ∀ b, 120 ≤ b → M1 b = M b := fun b hb => ho b (by unfold scrL; omega)
      unfold wp_X10_ofSeeker
      refine ⟨by decide, ?_⟩
      rw [e_mSeeker, e_in, hi 121 (by decide), hR.1.1]
      refine b1t h1 (b2t (by decide) (br_t (by decide) ?_))
      refine sp_mOut (nk := nk) (hr := hr) (ns := ns) (by rw [hi 121 (by decide)]; exact hR) hs (fun M2 ho2 => ?_)
      rw [hi 121 (by decide)]
      refine ⟨rfl, h.ask (M1 := M1) (ho.mono (fun b z => by unfold scrL at z; unfold scC scO; omega)) hi (fun b hb => ho2 b (by unfold scrM; omega)) ⟨ho2 _ (by unfold scrM; omega), ho2 _ (by unfold scrM; omega), ho2 _ (by unfold scrM; omega), ho2 _ (by unfold scrM; omega), ho2 _ (by unfold scrM; omega), ho2 _ (by unfold scrM; omega), ho2 _ (by unfold scrM; omega), by rw [ho2 120 (by unfold scrM; omega)], by rw [ho2 120 (by unfold scrM; omega)], by rw [ho2 120 (by unfold scrM; omega)]⟩ (fun i hi2 => ?_)⟩
      rw [ho2 121 (by unfold scrM; omega), ho2 122 (by unfold scrM; omega), ho2 123 (by unfold scrM; omega), hi 121 (by decide), hi 122 (by decide), hi 123 (by decide)]
      exact h.2.2 i hi2
    · refine bad (fun z => ?_)
      rcases zin2.mp z.2 with q | q | q
      · exact z0 q
      · exact z1 q
      · exact z2 q
  · exact b2f h1 (bad (fun z => h1 z.1))
