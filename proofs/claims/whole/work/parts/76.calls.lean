/-- another sheet -/
theorem INV.sheets {n s : Nat} {M M1 M2 : Mem} (h : INV n M) (hs : s < 4) (hb : M2 129 s = 0 ∨ M2 129 s = 8 ∨ M2 129 s = 16 ∨ M2 129 s = 32) (hz : ∃ z, z ≤ 40 ∧ M2 130 s = nI z) (hr : M1 (108 + 3 * s) 1 = M2 129 s) (hR : RR M1 (108 + 3 * s + 1) (M2 130 s) (fun j => M2 131 (40 * s + j)))
    (o1 : ∀ b, b < 120 → b ≠ 108 + 3 * s → b ≠ 109 + 3 * s → b ≠ 110 + 3 * s → M1 b = M b) (o2 : ∀ b, b < 120 → M2 b = M1 b) (ho : ∀ b, 120 ≤ b → b ≠ 129 → b ≠ 130 → b ≠ 131 → b ≠ 132 → M2 b = M b)
    (e129 : ∀ t, t < 4 → t ≠ s → M2 129 t = M 129 t) (e130 : ∀ t, t < 4 → t ≠ s → M2 130 t = M 130 t) (e131 : ∀ t, t < 4 → t ≠ s → ∀ j, j < 40 → M2 131 (40 * t + j) = M 131 (40 * t + j)) : INV (n + 1) M2 := by
  obtain ⟨⟨a, b, c, d, e, f, g⟩, hA, hz3⟩ := h
  have K : ∀ b, b < 120 → b ≠ 108 + 3 * s → b ≠ 109 + 3 * s → b ≠ 110 + 3 * s → M2 b = M b := fun b h1 h2 h3 h4 => (o2 b h1).trans (o1 b h1 h2 h3 h4)
  have K1 : ∀ b, b < 108 → M2 b = M b := fun b hb => K b (by omega) (by omega) (by omega) (by omega)
  unfold INV z3
  rw [ho 121 (by decide) (by decide) (by decide) (by decide) (by decide), ho 122 (by decide) (by decide) (by decide) (by decide) (by decide), ho 123 (by decide) (by decide) (by decide) (by decide) (by decide), ho 120 (by decide) (by decide) (by decide) (by decide) (by decide), ho 124 (by decide) (by decide) (by decide) (by decide) (by decide), ho 133 (by decide) (by decide) (by decide) (by decide) (by decide)]
  refine ⟨⟨a.kept hA.1.t (fun b h1 h2 _ => K1 b (by omega)), by rw [K1 0 (by omega)]; exact b, fun z => (c z).kept (hA.2.2.1 z).t (fun b h1 h2 _ => K1 b (by omega)), by rw [K1 37 (by omega), K1 42 (by omega), K1 70 (by omega), K1 75 (by omega)]; exact d, fun k h1 h2 => by rw [K1 107 (by omega)]; exact e k h1 h2, fun t ht => ?_, g.kept (K1 _ (by omega)) (K1 _ (by omega))⟩, ⟨hA.1, hA.mono.2.1, hA.2.2.1, fun t ht => ?_, hA.2.2.2.2⟩, hz3⟩
  · by_cases q : t = s
    · subst q
      exact ⟨by rw [o2 _ (by omega)]; exact hr, hR.kept (o2 _ (by omega)) (o2 _ (by omega))⟩
    · obtain ⟨f1, f2, f3⟩ := f t ht
      obtain ⟨⟨z, hz1, ez⟩, -⟩ := hA.2.2.2.1 t ht
      refine ⟨by rw [K _ (by omega) (by omega) (by omega) (by omega), e129 t ht q]; exact f1, ?_, fun j hj => ?_⟩
      · rw [K _ (by omega) (by omega) (by omega) (by omega), e130 t ht q]; exact f2
      · rw [e130 t ht q] at hj
        have hj2 := hj
        rw [ez, tn, nI_clamp (by omega)] at hj2
        dsimp only
        rw [K _ (by omega) (by omega) (by omega) (by omega), e131 t ht q j (by omega)]; exact f3 j hj
  · by_cases q : t = s
    · subst q; exact ⟨hz, hb⟩
    · rw [e130 t ht q, e129 t ht q]; exact hA.2.2.2.1 t ht
theorem imx_id {a b : Nat} (ha : a ≤ b) (hb : b < 2 ^ 31) : imx (0 : Int32) (imn (nI a) (nI b)) = nI a := by
  have h1 : imn (nI a) (nI b) = nI a := by
    unfold imn
    exact if_neg (nI_nlt ha hb)
  rw [h1]
  unfold imx
  split
  · rfl
  · rename_i h
    have := nle_lt.mp h
    rw [show (0 : Int32) = nI 0 from rfl, nI_leI (by omega) (by omega)] at this
    rw [show a = 0 from by omega]
    rfl
theorem sp_begin {s z : Nat} {v : Int32} {M : Mem} {Q : Mem → Prop} (hs : s < 4) (hz : z ≤ 40) (hQ : ∀ M', M' (108 + 3 * s) 1 = v → M' (109 + 3 * s) 1 = nI z → (∀ j, j < z → M' (110 + 3 * s) j = 0) → (∀ b, b ≠ 108 + 3 * s → b ≠ 109 + 3 * s → b ≠ 110 + 3 * s → M' b = M b) → Q M') : wp_X6_begin (108 + 3 * s) v (nI z) M Q := by
  obtain ⟨k6, k3, l40⟩ := sh_kd s hs
  unfold wp_X6_begin
  refine ⟨k6, ?_⟩
  intro M1 e1
  unfold wp_X3_fillWithZeros
  refine ⟨by rw [show 108 + 3 * s + 1 = 109 + 3 * s from by omega]; exact k3, ?_⟩
  rw [show 108 + 3 * s + 1 = 109 + 3 * s from by omega, show 109 + 3 * s + 1 = 110 + 3 * s from by omega, l40, imx_id hz (by decide)]
  intro M2 e2
  have p : ∀ (m i : Nat) (M3 : Mem), i + m = z → M3 (108 + 3 * s) 1 = v → M3 (109 + 3 * s) 1 = nI z → (∀ j, j < i → M3 (110 + 3 * s) j = 0) → (∀ b, b ≠ 108 + 3 * s → b ≠ 109 + 3 * s → b ≠ 110 + 3 * s → M3 b = M b) → l_X3_fillWithZeros_19 (109 + 3 * s) Q (m + 1) (nI i) M3 := by
    intro m
    induction m with
    | zero =>
      intro i M3 hi a1 a2 a3 a4
      have : i = z := by omega
      subst this
      show B_X3_fillWithZeros_19 _ Q _ _ _
      unfold B_X3_fillWithZeros_19
      rw [a2]
      exact br_t (nI_le (Nat.le_refl _) (by omega)) (hQ M3 a1 a2 a3 a4)
    | succ m ih =>
      intro i M3 hi a1 a2 a3 a4
      show B_X3_fillWithZeros_19 _ Q _ _ _
      unfold B_X3_fillWithZeros_19
      rw [a2, show 109 + 3 * s + 1 = 110 + 3 * s from by omega, l40]
      refine br_f (nI_ge (by omega) (by omega)) ⟨vp_in_nI (by omega) (by decide), ?_⟩
      rw [nI_clamp (by omega)]
      intro M4 e4 x ex
      rw [nI_1] at ex
      subst ex
      refine ih (i + 1) M4 (by omega) (by rw [e4, mu_ne (by omega)]; exact a1) (by rw [e4, mu_ne (by omega)]; exact a2) (fun j hj => ?_) (fun b h1 h2 h3 => by rw [e4, mu_ne h3]; exact a4 b h1 h2 h3)
      rw [e4]
      by_cases q : j = i
      · subst q; rw [mu_hit]
      · rw [mu_off q]; exact a3 j (by omega)
  exact ⟨z + 1, p z 0 M2 (by omega) (by rw [e2, mu_ne (by omega), e1, mu_hit]) (by rw [e2, mu_hit]) (fun j hj => by omega) (fun b h1 h2 h3 => by rw [e2, mu_ne h2, e1, mu_ne h1])⟩
theorem call_sheet {n : Nat} {M : Mem} (h : INV n M) (a b c : Int32) : wp_X9_sheet 0 a b c M (fun r M1 => wp_X10_sheet 120 a b c M1 (fun r2 M2 => r = r2 ∧ INV (n + 1) M2)) := by
  have guard : ∀ (e : Int32) (k : Nat) (M1 : Mem) (Q : Int32 → Mem → Prop), ((b = 0 ∨ b = 8 ∨ b = 16 ∨ b = 32) → zin a 0 3 → b_X10_sheet_36 120 Q a b c M1) → (¬ ((b = 0 ∨ b = 8 ∨ b = 16 ∨ b = 32) ∧ zin a 0 3) → wp_X10_errs 120 (-1000000001) M1 Q) → wp_X10_sheet 120 a b c M1 Q := by
    intro _ _ M1 Q hg hb
    unfold wp_X10_sheet b_X10_sheet_29
    refine ⟨by decide, ?_⟩
    rw [e_mSheet]
    by_cases h1 : zin a 0 3
    · refine b1t h1 ⟨fun z => hg (Or.inl z) h1, fun z0 => ⟨fun z => hg (Or.inr (Or.inl z)) h1, fun z8 => ⟨fun z => hg (Or.inr (Or.inr (Or.inl z))) h1, fun z16 => ⟨fun z => hg (Or.inr (Or.inr (Or.inr z))) h1, fun z32 => hb (fun z => ?_)⟩⟩⟩⟩
      rcases z.1 with q | q | q | q
      · exact z0 q
      · exact z8 q
      · exact z16 q
      · exact z32 q
    · exact b1f h1 (hb (fun z => h1 z.2))
  have bad : ¬ ((b = 0 ∨ b = 8 ∨ b = 16 ∨ b = 32) ∧ zin a 0 3) → wp_X9_refuse 0 1 M (fun r M1 => wp_X10_sheet 120 a b c M1 (fun r2 M2 => r = r2 ∧ INV (n + 1) M2)) := by
    intro hb
    refine sp_refuse (k := 1) (by decide) (by decide) ?_
    exact guard 0 0 _ _ (fun z1 z2 => absurd ⟨z1, z2⟩ hb) (fun _ => fin_err (e := -1000000001) h (k := 1) (by decide) (by decide) rfl)
  have good : (b = 0 ∨ b = 8 ∨ b = 16 ∨ b = 32) → zin a 0 3 → b_X9_sheet_35 0 (fun r M1 => wp_X10_sheet 120 a b c M1 (fun r2 M2 => r = r2 ∧ INV (n + 1) M2)) a b c M := by
    intro hb h1
    obtain ⟨s, hs, rfl⟩ := (zin_nI (n := 3) (by decide)).mp h1
    -- begun
    have run : ∀ (z : Nat) (M1 : Mem), z ≤ 40 → (b = 0 → z = 0) → (¬ b = 0 → c = nI z) → M1 (108 + 3 * s) 1 = b → M1 (109 + 3 * s) 1 = nI z → (∀ j, j < z → M1 (110 + 3 * s) j = 0) → (∀ b, b ≠ 108 + 3 * s → b ≠ 109 + 3 * s → b ≠ 110 + 3 * s → M1 b = M b) → wp_X10_sheet 120 (nI s) b c M1 (fun r2 M2 => 1 = r2 ∧ INV (n + 1) M2) := by
      intro z M1 hz hz0 hzc a1 a2 a3 a4
      refine guard 0 0 _ _ (fun _ _ => ?_) (fun z => absurd ⟨hb, h1⟩ z)
      have hi : ∀ b, 120 ≤ b → M1 b = M b := fun b hb => a4 b (by omega) (by omega) (by omega)
      have go : b_X10_sheet_68 120 (fun r2 M2 => 1 = r2 ∧ INV (n + 1) M2) (nI s) b c M1 := by
        unfold b_X10_sheet_68
        refine ⟨vp_in_nI (by omega) (by decide), ?_⟩
        rw [nI_clamp (by omega)]
        intro M2 e2
        have fin : b_X10_sheet_89 120 (fun r2 M2 => 1 = r2 ∧ INV (n + 1) M2) (nI s) (120 + 10) (nI s) (nI z) M2 := by
          unfold b_X10_sheet_89
          rw [show lnT (120 + 10) = 4 from by decide]
          refine ⟨vp_in_nI (by omega) (by decide), ?_⟩
          rw [nI_clamp (by omega)]
          intro M3 e3
          have p : ∀ (m i : Nat) (M4 : Mem), i + m = 40 → (∀ j, j < i → M4 131 (40 * s + j) = 0) → (∀ j, (j < 40 * s ∨ 40 * s + 40 ≤ j) → M4 131 j = M 131 j) → (∀ b, b ≠ 131 → M4 b = M3 b) → l_X10_sheet_93 120 (fun r2 M2 => 1 = r2 ∧ INV (n + 1) M2) (nI s) (m + 1) (nI i) M4 := by
            intro m
            induction m with
            | zero =>
              intro i M4 hi4 b1 b2 b3
              have : i = 40 := by omega
              subst this
              show B_X10_sheet_93 120 _ _ _ _ _
              unfold B_X10_sheet_93
              refine br_t (by decide) ⟨rfl, ?_⟩
              have f129 : M4 129 = upd (M 129) s b := by rw [b3 129 (by decide), e3, mu_ne (by decide), e2, show (120 + 9 : Nat) = 129 from rfl, mu_same, hi 129 (by decide)]
              have f130 : M4 130 = upd (M 130) s (nI z) := by rw [b3 130 (by decide), e3, show (120 + 10 : Nat) = 130 from rfl, mu_same, e2, mu_ne (by decide), hi 130 (by decide)]
              have fo : ∀ b, b ≠ 129 → b ≠ 130 → b ≠ 131 → M4 b = M1 b := fun b g1 g2 g3 => by rw [b3 b g3, e3, mu_ne g2, e2, mu_ne g1]
              refine h.sheets (s := s) (M1 := M1) (by omega) (by rw [f129, upd_hit]; exact hb) ⟨z, hz, by rw [f130, upd_hit]⟩ (by rw [f129, upd_hit]; exact a1) ⟨?_, fun j hj => ?_⟩ (fun b _ g1 g2 g3 => a4 b g1 g2 g3) (fun b hb => fo b (by omega) (by omega) (by omega)) (fun b hb g1 g2 g3 g4 => (fo b g1 g2 g3).trans (hi b hb)) (fun t ht q => by rw [f129, upd_off q]) (fun t ht q => by rw [f130, upd_off q]) (fun t ht q j hj => b2 _ (by omega))
              · rw [f130, upd_hit, show 108 + 3 * s + 1 = 109 + 3 * s from by omega]; exact a2
              · rw [f130, upd_hit, tn, nI_clamp (by omega)] at hj
                rw [show 108 + 3 * s + 1 + 1 = 110 + 3 * s from by omega, a3 j hj]
                exact (b1 j (by omega)).symm
            | succ m ih =>
              intro i M4 hi4 b1 b2 b3
              show B_X10_sheet_93 120 _ _ _ _ _
              unfold B_X10_sheet_93
              refine br_f (fun z => nI_ge (a := i) (b := 40) (by omega) (by decide) z) ?_
              rw [show (40 : Int32) = nI 40 from rfl, pk_mul, nI_add]
              refine ⟨vp_in_nI (by omega) (by decide), ?_⟩
              rw [nI_clamp (by omega)]
              intro M5 e5 x ex
              rw [nI_1] at ex
              subst ex
              refine ih (i + 1) M5 (by omega) (fun j hj => ?_) (fun j hj => ?_) (fun b g => by rw [e5, mu_ne g]; exact b3 b g)
              · rw [e5]
                by_cases q : j = i
                · subst q; exact mu_hit
                · rw [show (120 + 11 : Nat) = 131 from rfl, mu_off (by omega)]; exact b1 j (by omega)
              · rw [e5, show (120 + 11 : Nat) = 131 from rfl, mu_off (by omega)]; exact b2 j hj
          exact ⟨41, p 40 0 M3 (by omega) (fun j hj => by omega) (fun j _ => by rw [e3, mu_ne (by decide), e2, mu_ne (by decide), hi 131 (by decide)]) (fun b _ => rfl)⟩
        by_cases q : b = 0
        · have z0 := hz0 q
          subst z0
          exact ⟨fun z => absurd q z, fun _ => fin⟩
        · rw [hzc q]
          exact ⟨fun _ => fin, fun z => absurd z q⟩
      unfold b_X10_sheet_36 b_X10_sheet_51
      by_cases q : b = 0
      · exact ⟨fun _ => ⟨fun _ => go, fun z => absurd q z⟩, fun z => absurd q z⟩
      · have c0 : (0 : Int32) ≤ c := by rw [hzc q]; exact nI_pos' (by omega)
        have c40 : c ≤ 40 := by rw [hzc q]; exact nI_le (b := 40) hz (by decide)
        exact ⟨fun z => absurd z q, fun _ => br_t c0 ⟨fun z => absurd z q, fun _ => br_t c40 go⟩⟩
    unfold b_X9_sheet_35
    by_cases q : b = 0
    · refine ⟨fun z => absurd q z, fun _ => ⟨vp_in_nI (by omega) (by decide), ?_⟩⟩
      rw [nI_clamp (by omega), show 0 + 106 + 2 + 3 * s = 108 + 3 * s from by omega]
      refine sp_begin (z := 0) (by omega) (by omega) (fun M1 a1 a2 a3 a4 => ?_)
      exact run 0 M1 (by omega) (fun _ => rfl) (fun z => absurd q z) (a1.trans q.symm) a2 a3 a4
    · refine ⟨fun _ => ?_, fun z => absurd z q⟩
      have mdl : ∀ (e : Int32) (k : Nat) (M1 : Mem), M1 = M1 → ((0 ≤ c → c ≤ 40 → False)) → (¬ 0 ≤ c → e = -1000000003) → (0 ≤ c → e = -1000000001) → ∀ Q, wp_X10_errs 120 e M1 Q → wp_X10_sheet 120 (nI s) b c M1 Q := by
        intro e k M1 _ hc he1 he2 Q hq
        refine guard 0 0 _ _ (fun _ _ => ?_) (fun z => absurd ⟨hb, h1⟩ z)
        unfold b_X10_sheet_36 b_X10_sheet_51
        refine ⟨fun z => absurd z q, fun _ => ⟨fun z => ⟨fun z => absurd z q, fun _ => ⟨fun z2 => absurd z2 (fun z2 => hc z z2), fun _ => ?_⟩⟩, fun z => ?_⟩⟩
        · rw [← he2 z]; exact hq
        · rw [← he1 z]; exact hq
      by_cases c0 : (0 : Int32) ≤ c
      · refine br_t c0 ?_
        by_cases c40 : c ≤ 40
        · obtain ⟨z, hz, rfl⟩ := (zin_nI (n := 40) (by decide)).mp ⟨c0, c40⟩
          refine br_t c40 ⟨vp_in_nI (by omega) (by decide), ?_⟩
          rw [nI_clamp (by omega), show 0 + 106 + 2 + 3 * s = 108 + 3 * s from by omega]
          exact sp_begin (by omega) hz (fun M1 a1 a2 a3 a4 => run z M1 hz (fun z => absurd z q) (fun _ => rfl) a1 a2 a3 a4)
        · refine br_f c40 (sp_refuse (k := 1) (by decide) (by decide) ?_)
          exact mdl (-1000000001) 1 _ rfl (fun _ z => c40 z) (fun z => absurd c0 z) (fun _ => rfl) _ (fin_err (e := -1000000001) h (k := 1) (by decide) (by decide) rfl)
      · refine br_f c0 (sp_refuse (k := 3) (by decide) (by decide) ?_)
        exact mdl (-1000000003) 3 _ rfl (fun z _ => c0 z) (fun _ => rfl) (fun z => absurd z c0) _ (fin_err (e := -1000000003) h (k := 3) (by decide) (by decide) rfl)
  unfold wp_X9_sheet b_X9_sheet_29
  refine ⟨by decide, ?_⟩
  rw [e_isSheet]
  by_cases h1 : zin a 0 3
  · refine b1t h1 ⟨fun z => good (Or.inl z) h1, fun z0 => ⟨fun z => good (Or.inr (Or.inl z)) h1, fun z8 => ⟨fun z => good (Or.inr (Or.inr (Or.inl z))) h1, fun z16 => ⟨fun z => good (Or.inr (Or.inr (Or.inr z))) h1, fun z32 => bad (fun z => ?_)⟩⟩⟩⟩
    rcases z.1 with q | q | q | q
    · exact z0 q
    · exact z8 q
    · exact z16 q
    · exact z32 q
  · exact b1f h1 (bad (fun z => h1 z.2))
