/-! ===== calls: the moor, seekers, sheep ===== -/
theorem b1t {p : Prop} [Decidable p] {A B : Prop} (h : p) (b : B) : (bi p = 0 → A) ∧ (¬ bi p = 0 → B) := by rw [bi_t h]; exact ⟨fun z => absurd z (by decide), fun _ => b⟩
theorem b1f {p : Prop} [Decidable p] {A B : Prop} (h : ¬ p) (a : A) : (bi p = 0 → A) ∧ (¬ bi p = 0 → B) := by rw [bi_f h]; exact ⟨fun _ => a, fun z => absurd rfl z⟩
theorem b2t {p : Prop} [Decidable p] {A B : Prop} (h : p) (b : B) : (¬ bi p = 0 → B) ∧ (bi p = 0 → A) := by rw [bi_t h]; exact ⟨fun _ => b, fun z => absurd z (by decide)⟩
theorem b2f {p : Prop} [Decidable p] {A B : Prop} (h : ¬ p) (a : A) : (¬ bi p = 0 → B) ∧ (bi p = 0 → A) := by rw [bi_f h]; exact ⟨fun z => absurd rfl z, fun _ => a⟩
theorem fin_err {n k : Nat} {M : Mem} {e : Int32} (h : INV n M) (h1 : 1 ≤ k) (h5 : k ≤ 5) (he : e = (-1000000000) - nI k) : wp_X10_errs 120 e (mu M 107 k (M 107 k + 1)) (fun r2 M2 => (-1000000000) - nI k = r2 ∧ INV (n + 1) M2) := by
  refine sp_errs (k := k) h5 (by rw [he]; exact err_val k h1 h5) ?_
  exact ⟨he.symm, h.err0 h1 h5⟩
theorem sameM.upd {M M2 : Mem} (h : ∀ b, 120 ≤ b → b ≠ 121 → M2 b = M b) : sameM M (fun b => if b = 121 then M 121 else M2 b) := by
  refine ⟨by simp, ?_, ?_, ?_, ?_, ?_, ?_, ?_, ?_, ?_⟩
  all_goals (simp; rw [h _ (by decide) (by decide)])
theorem WR.set {M M' : Mem} {w : Nat} {r r' : Nat → Int32} (h : WR M w r) (hr : RW r) (hm : MR M' (w + 1) r') (hk : ∀ b, b = w ∨ (w + 30 ≤ b ∧ b < w + 34) → M' b = M b) (hi : ∀ i, (i = 1 ∨ i = 4 ∨ i = 5 ∨ (72 ≤ i ∧ i < 142)) → r' i = r i) : WR M' w r' := by
  obtain ⟨ns, nk, h0, nt, nw, hR, -, ht, hw, -⟩ := hr
  refine ⟨by rw [hk _ (by omega), hi 1 (by omega)]; exact h.1, hm, ⟨?_, fun j hj => ?_⟩, ⟨?_, fun j hj => ?_⟩⟩
  · rw [hk _ (by omega), hi 4 (by omega)]; exact h.2.2.1.1
  · rw [hi 4 (by omega)] at hj
    have hj2 := hj
    rw [ht.1, tn, nI_clamp (by omega)] at hj2
    dsimp only
    rw [hk _ (by omega), hi _ (by omega)]; exact h.2.2.1.2 j hj
  · rw [hk _ (by omega), hi 5 (by omega)]; exact h.2.2.2.1
  · rw [hi 5 (by omega)] at hj
    have hj2 := hj
    rw [hw.1, tn, nI_clamp (by omega)] at hj2
    dsimp only
    rw [hk _ (by omega), hi _ (by omega)]; exact h.2.2.2.2 j hj
theorem INV.moor {n : Nat} {M M1 M2 : Mem} {r : Nat → Int32} (h : INV n M) (hr : RW r) (hm : MR M1 2 r) (ho : only (mo 2) M M1) (hi : ∀ i, (i = 1 ∨ i = 4 ∨ i = 5 ∨ (72 ≤ i ∧ i < 142)) → r i = M 121 i) (h3 : ∀ b, b < 120 → M2 b = M1 b) (hs : ∀ b, 120 ≤ b → b ≠ 121 → M2 b = M b) (e : M2 121 = r) (hz : ∀ i, 242 ≤ i → r i = 0) : INV (n + 1) M2 := by
  refine h.row hr (h.1.1.set h.2.1.1 hm (fun b hb => ho b (by unfold mo; omega)) hi) (fun b h1 h2 _ => ho b (by unfold mo; omega)) h3 (sameM.upd hs) e (fun i hi => ?_)
  rw [e, hs 122 (by decide) (by decide), hs 123 (by decide) (by decide)]
  exact ⟨hz i hi, (h.2.2 i hi).2⟩
theorem RW.upd {r : Nat → Int32} {k : Nat} {v : Int32} (h : RW r) (hR : ∀ ns nk hr, RO r ns nk hr → RO (upd r k v) ns nk hr) (hk : k ≠ 4 ∧ k ≠ 5 ∧ (k < 72 ∨ 122 ≤ k)) : RW (upd r k v) := by
  obtain ⟨ns, nk, h0, nt, nw, hR0, hh, ht, hw, hb⟩ := h
  refine ⟨ns, nk, h0, nt, nw, hR _ _ _ hR0, hh, ⟨by rw [upd_off (by omega)]; exact ht.1, ht.2⟩, ⟨by rw [upd_off (by omega)]; exact hw.1, hw.2⟩, fun j hj => ?_⟩
  rw [upd_off (by omega)]
  exact hb j hj
theorem sp_becomes {i : Nat} {v : Int32} {M : Mem} {Q : Int32 → Mem → Prop} (hi : i < 242) (hQ : Q (M 121 i) (mu M 121 i v)) : wp_X10_becomes 120 (nI i) v M Q := by
  unfold wp_X10_becomes
  refine ⟨by decide, vp_in_nI hi (by decide), ?_⟩
  rw [nI_clamp (by omega)]
  intro x ex
  refine ⟨vp_in_nI hi (by decide), ?_⟩
  intro M1 e1
  subst e1 ex
  exact hQ
/-- what follows of the relation -/
theorem INV.mr {n : Nat} {M : Mem} (h : INV n M) : MR M 2 (M 121) := h.1.1.2.1
theorem INV.ro {n : Nat} {M : Mem} (h : INV n M) : ∃ ns nk hr, RO (M 121) ns nk hr ∧ hr ≤ 9999 := by
  obtain ⟨ns, nk, h0, nt, nw, hR0, hh, -⟩ := h.2.1.1
  exact ⟨ns, nk, h0, hR0, hh⟩
theorem INV.z {n : Nat} {M : Mem} (h : INV n M) : ∀ i, 242 ≤ i → M 121 i = 0 := fun i hi => (h.2.2 i hi).1
theorem call_snow {n : Nat} {M : Mem} (h : INV n M) (a v : Int32) : wp_X9_snow 0 a v M (fun r M1 => wp_X10_snow 120 a v M1 (fun r2 M2 => r = r2 ∧ INV (n + 1) M2)) := by
  have bad : ¬ (zin a 0 9 ∧ zin v 0 999) → wp_X9_refuse 0 1 M (fun r M1 => wp_X10_snow 120 a v M1 (fun r2 M2 => r = r2 ∧ INV (n + 1) M2)) := by
    intro hb
    refine sp_refuse (k := 1) (by decide) (by decide) ?_
    unfold wp_X10_snow b_X10_snow_30
    refine ⟨by decide, ?_⟩
    rw [e_mCell, e_in]
    have fe := fin_err (e := -1000000001) h (k := 1) (by decide) (by decide) rfl
    by_cases h1 : zin a 0 9
    · exact b1t h1 (b1f (fun z => hb ⟨h1, z⟩) fe)
    · exact b1f h1 fe
  unfold wp_X9_snow b_X9_snow_17
  refine ⟨by decide, ?_⟩
  rw [e_isCell, e_isWithin]
  by_cases h1 : zin a 0 9
  · refine b1t h1 ?_
    by_cases h2 : zin v 0 999
    · refine b2t h2 ?_
      obtain ⟨c, hc, rfl⟩ := (zin_nI (n := 9) (by decide)).mp h1
      refine ⟨vp_in_nI (by omega) (by decide), ?_⟩
      rw [nI_clamp (by omega)]
      intro x ex
      refine ⟨vp_in_nI (by omega) (by decide), ?_⟩
      intro M1 e1
      have e121 : M1 121 = M 121 := by rw [e1]; exact mu_ne (by decide)
      unfold wp_X10_snow
      refine ⟨by decide, ?_⟩
      rw [e_mCell, e_in]
      refine b1t h1 (b1t h2 ?_)
      rw [show (8 : Int32) = nI 8 from rfl, nI_add]
      refine sp_becomes (by omega) ⟨?_, ?_⟩
      · rw [ex, e121]; exact h.mr.2.1 c (by omega)
      · have hR := h.2.1.1.upd (k := 8 + c) (v := v) (fun ns nk hr hR => hR.snow ((zin_nI (n := 999) (by decide)).mp h2) (by omega)) (by omega)
        refine h.moor (r := upd (M 121) (8 + c) v) (M1 := M1) hR (by rw [e1]; exact h.mr.snow (by omega)) (by rw [e1]; exact only.mu ⟨by omega, by omega⟩) (fun i hi => upd_off (by omega)) (fun b hb => mu_ne (by omega)) (fun b h3 h4 => by rw [mu_ne h4, e1, mu_ne (by omega)]) (by rw [mu_same, e121]) (fun i hi => by rw [upd_off (by omega)]; exact h.z i hi)
    · exact b2f h2 (bad (fun z => h2 z.2))
  · exact b1f h1 (bad (fun z => h1 z.1))
def atZ (r : Nat → Int32) (c : Int32) : Nat → Int32
  | 0 => 0
  | i + 1 => atZ r c i ||| (if r (18 + 2 * i) = c then ish 1 (nI i) else 0)
def inZ (r : Nat → Int32) (c : Int32) : Nat → Int32
  | 0 => 0
  | i + 1 => inZ r c i ||| (if r (30 + 6 * i + 2) = c then ish 1 (nI i) else 0)
theorem sp_seekersAt {ns nk hr : Nat} {r : Nat → Int32} {c : Int32} {M : Mem} {Q : Int32 → Mem → Prop} (hM : MR M 2 r) (hR : RO r ns nk hr) (hQ : Q (atZ r c ns) M) : wp_X1_seekersAt 2 c M Q := by
  have n6 := hR.1.2
  have p : ∀ (m i : Nat), i + m = ns → l_X1_seekersAt_4 2 Q c (m + 1) (atZ r c i) (nI i) M := by
    intro m
    induction m with
    | zero =>
      intro i hi
      have : i = ns := by omega
      subst this
      show B_X1_seekersAt_4 2 Q _ _ _ _ _
      unfold B_X1_seekersAt_4
      rw [show M 2 6 = nI i from hM.1.2.2.trans hR.1.1]
      exact br_t (nI_le (Nat.le_refl _) (by omega)) hQ
    | succ m ih =>
      intro i hi
      show B_X1_seekersAt_4 2 Q _ _ _ _ _
      unfold B_X1_seekersAt_4
      rw [show M 2 6 = nI ns from hM.1.2.2.trans hR.1.1]
      refine br_f (nI_ge (by omega) (by omega)) ⟨vp_in_nI (by omega) (by decide), ?_⟩
      rw [nI_clamp (by omega), (hM.2.2.1 i (by rw [hR.tn3]; omega)).1]
      have fin : ∀ x : Int32, x = (if r (18 + 2 * i) = c then ish 1 (nI i) else 0) → b_X1_seekersAt_33 2 Q (l_X1_seekersAt_4 2 Q c (m + 1)) c (nI i) (atZ r c i) x M := by
        intro x ex
        unfold b_X1_seekersAt_33
        intro y ey z ez
        rw [nI_1] at ez
        subst ez ey ex
        exact ih (i + 1) (by omega)
      by_cases q : r (18 + 2 * i) = c
      · exact ⟨fun z => absurd q z, fun _ => fin _ (by rw [if_pos q])⟩
      · exact ⟨fun _ => fin _ (by rw [if_neg q]), fun z => absurd z q⟩
  unfold wp_X1_seekersAt
  exact ⟨by decide, ns + 1, p ns 0 (by omega)⟩
theorem sp_sheepIn {ns nk hr : Nat} {r : Nat → Int32} {c : Int32} {M : Mem} {Q : Int32 → Mem → Prop} (hM : MR M 2 r) (hR : RO r ns nk hr) (hQ : Q (inZ r c nk) M) : wp_X1_sheepIn 2 c M Q := by
  have n7 := hR.2.1.2
  have p : ∀ (m i : Nat), i + m = nk → l_X1_sheepIn_4 2 Q c (m + 1) (inZ r c i) (nI i) M := by
    intro m
    induction m with
    | zero =>
      intro i hi
      have : i = nk := by omega
      subst this
      show B_X1_sheepIn_4 2 Q _ _ _ _ _
      unfold B_X1_sheepIn_4
      rw [show M 2 7 = nI i from hM.1.2.1.trans hR.2.1.1]
      exact br_t (nI_le (Nat.le_refl _) (by omega)) hQ
    | succ m ih =>
      intro i hi
      show B_X1_sheepIn_4 2 Q _ _ _ _ _
      unfold B_X1_sheepIn_4
      rw [show M 2 7 = nI nk from hM.1.2.1.trans hR.2.1.1]
      refine br_f (nI_ge (by omega) (by omega)) ⟨vp_in_nI (by omega) (by decide), ?_⟩
      rw [nI_clamp (by omega), hM.2.2.2.1 i (by rw [hR.tn2]; omega) 2 (by decide)]
      have fin : ∀ x : Int32, x = (if r (30 + 6 * i + 2) = c then ish 1 (nI i) else 0) → b_X1_sheepIn_33 2 Q (l_X1_sheepIn_4 2 Q c (m + 1)) c (nI i) (inZ r c i) x M := by
        intro x ex
        unfold b_X1_sheepIn_33
        intro y ey z ez
        rw [nI_1] at ez
        subst ez ey ex
        exact ih (i + 1) (by omega)
      by_cases q : r (30 + 6 * i + 2) = c
      · exact ⟨fun z => absurd q z, fun _ => fin _ (by rw [if_pos q])⟩
      · exact ⟨fun _ => fin _ (by rw [if_neg q]), fun z => absurd z q⟩
  unfold wp_X1_sheepIn
  exact ⟨by decide, nk + 1, p nk 0 (by omega)⟩
theorem sp_thereIn {ns nk hr : Nat} {c : Int32} {M : Mem} {Q : Int32 → Mem → Prop} (hR : RO (M 121) ns nk hr) (hQ : Q (atZ (M 121) c ns) M) : wp_X10_thereIn 120 c 0 M Q := by
  have n6 := hR.1.2
  have p : ∀ (m i : Nat), i + m = ns → l_X10_thereIn_5 120 Q c 0 (m + 1) (atZ (M 121) c i) (nI i) M := by
    intro m
    induction m with
    | zero =>
      intro i hi
      have : i = ns := by omega
      subst this
      show B_X10_thereIn_5 120 Q _ _ _ _ _ _
      unfold B_X10_thereIn_5 b_X10_thereIn_26
      rw [show M (120 + 1) 3 = nI i from hR.1.1]
      exact ⟨fun _ => br_t (nI_le (Nat.le_refl _) (by omega)) hQ, fun z => absurd rfl z⟩
    | succ m ih =>
      intro i hi
      show B_X10_thereIn_5 120 Q _ _ _ _ _ _
      unfold B_X10_thereIn_5 b_X10_thereIn_26
      rw [show M (120 + 1) 3 = nI ns from hR.1.1]
      refine ⟨fun _ => br_f (nI_ge (by omega) (by omega)) ⟨fun _ => ?_, fun z => absurd rfl z⟩, fun z => absurd rfl z⟩
      refine sp_at (by omega) ?_
      have fin : ∀ x : Int32, x = (if M 121 (18 + 2 * i) = c then ish 1 (nI i) else 0) → b_X10_thereIn_62 120 Q (l_X10_thereIn_5 120 Q c 0 (m + 1)) c 0 (nI i) (atZ (M 121) c i) x M := by
        intro x ex
        unfold b_X10_thereIn_62
        intro y ey z ez
        rw [nI_1] at ez
        subst ez ey ex
        exact ih (i + 1) (by omega)
      unfold b_X10_thereIn_50
      by_cases q : M 121 (18 + 2 * i) = c
      · exact ⟨fun z => absurd q z, fun _ => fin _ (by rw [if_pos q])⟩
      · exact ⟨fun _ => fin _ (by rw [if_neg q]), fun z => absurd z q⟩
  unfold wp_X10_thereIn
  exact ⟨by decide, ns + 1, p ns 0 (by omega)⟩
theorem sp_thereIn1 {ns nk hr : Nat} {c : Int32} {M : Mem} {Q : Int32 → Mem → Prop} (hR : RO (M 121) ns nk hr) (hQ : Q (inZ (M 121) c nk) M) : wp_X10_thereIn 120 c 1 M Q := by
  have n7 := hR.2.1.2
  have p : ∀ (m i : Nat), i + m = nk → l_X10_thereIn_5 120 Q c 1 (m + 1) (inZ (M 121) c i) (nI i) M := by
    intro m
    induction m with
    | zero =>
      intro i hi
      have : i = nk := by omega
      subst this
      show B_X10_thereIn_5 120 Q _ _ _ _ _ _
      unfold B_X10_thereIn_5 b_X10_thereIn_26
      rw [show M (120 + 1) 2 = nI i from hR.2.1.1]
      exact ⟨fun z => absurd z (by decide), fun _ => br_t (nI_le (Nat.le_refl _) (by omega)) hQ⟩
    | succ m ih =>
      intro i hi
      show B_X10_thereIn_5 120 Q _ _ _ _ _ _
      unfold B_X10_thereIn_5 b_X10_thereIn_26
      rw [show M (120 + 1) 2 = nI nk from hR.2.1.1]
      refine ⟨fun z => absurd z (by decide), fun _ => br_f (nI_ge (by omega) (by omega)) ⟨fun z => absurd z (by decide), fun _ => ?_⟩⟩
      refine sp_its (w := 2) (by omega) (by decide) ?_
      have fin : ∀ x : Int32, x = (if M 121 (30 + 6 * i + 2) = c then ish 1 (nI i) else 0) → b_X10_thereIn_62 120 Q (l_X10_thereIn_5 120 Q c 1 (m + 1)) c 1 (nI i) (inZ (M 121) c i) x M := by
        intro x ex
        unfold b_X10_thereIn_62
        intro y ey z ez
        rw [nI_1] at ez
        subst ez ey ex
        exact ih (i + 1) (by omega)
      unfold b_X10_thereIn_50
      by_cases q : M 121 (30 + 6 * i + 2) = c
      · exact ⟨fun z => absurd q z, fun _ => fin _ (by rw [if_pos q])⟩
      · exact ⟨fun _ => fin _ (by rw [if_neg q]), fun z => absurd z q⟩
  unfold wp_X10_thereIn
  exact ⟨by decide, nk + 1, p nk 0 (by omega)⟩
theorem zin2 {a : Int32} : zin a 0 2 ↔ a = 0 ∨ a = 1 ∨ a = 2 := by
  constructor
  · intro h
    obtain ⟨k, hk, rfl⟩ := (zin_nI (n := 2) (by decide)).mp h
    have : k = 0 ∨ k = 1 ∨ k = 2 := by omega
    rcases this with rfl | rfl | rfl
    · exact Or.inl rfl
    · exact Or.inr (Or.inl rfl)
    · exact Or.inr (Or.inr rfl)
  · rintro (rfl | rfl | rfl) <;> decide
theorem call_ofCell {n : Nat} {M : Mem} (h : INV n M) (a w : Int32) : wp_X9_ofCell 0 a w M (fun r M1 => wp_X10_ofCell 120 a w M1 (fun r2 M2 => r = r2 ∧ INV (n + 1) M2)) := by
  obtain ⟨ns, nk, hr, hR, hh⟩ := h.ro
  have bad : ¬ (zin a 0 9 ∧ zin w 0 2) → wp_X9_refuse 0 1 M (fun r M1 => wp_X10_ofCell 120 a w M1 (fun r2 M2 => r = r2 ∧ INV (n + 1) M2)) := by
    intro hb
    refine sp_refuse (k := 1) (by decide) (by decide) ?_
    unfold wp_X10_ofCell b_X10_ofCell_16
    refine ⟨by decide, ?_⟩
    rw [e_mCell, e_in]
    have fe := fin_err (e := -1000000001) h (k := 1) (by decide) (by decide) rfl
    by_cases h1 : zin a 0 9
    · exact b1t h1 (b2f (fun z => hb ⟨h1, z⟩) fe)
    · exact b1f h1 fe
  unfold wp_X9_ofCell
  refine ⟨by decide, ?_⟩
  rw [e_isCell]
  by_cases h1 : zin a 0 9
  · refine b2t h1 ?_
    obtain ⟨c, hc, rfl⟩ := (zin_nI (n := 9) (by decide)).mp h1
    refine ⟨fun z => ?_, fun z => ?_, fun z => ?_, fun z0 z1 z2 => ?_⟩
    · subst z
      refine ⟨vp_in_nI (by omega) (by decide), ?_⟩
      rw [nI_clamp (by omega)]
      unfold wp_X10_ofCell
      refine ⟨by decide, ?_⟩
      rw [e_mCell, e_in]
      refine b1t h1 (b2t (by decide) ⟨fun z => absurd rfl z, fun _ => ?_⟩)
      rw [show (8 : Int32) = nI 8 from rfl, nI_add]
      refine ⟨vp_in_nI (by omega) (by decide), ?_⟩
      rw [nI_clamp (by omega)]
      exact ⟨h.mr.2.1 c (by omega), h.pure⟩
    · subst z
      refine sp_seekersAt h.mr hR ?_
      unfold wp_X10_ofCell
      refine ⟨by decide, ?_⟩
      rw [e_mCell, e_in]
      refine b1t h1 (b2t (by decide) ⟨fun _ => ⟨fun _ => ?_, fun z => absurd z (by decide)⟩, fun z => absurd z (by decide)⟩)
      unfold b_X10_ofCell_51
      exact sp_thereIn hR ⟨rfl, h.pure⟩
    · subst z
      refine sp_sheepIn h.mr hR ?_
      unfold wp_X10_ofCell
      refine ⟨by decide, ?_⟩
      rw [e_mCell, e_in]
      refine b1t h1 (b2t (by decide) ⟨fun _ => ⟨fun z => absurd rfl z, fun _ => ?_⟩, fun z => absurd z (by decide)⟩)
      unfold b_X10_ofCell_51
      exact sp_thereIn1 hR ⟨rfl, h.pure⟩
    · refine bad (fun z => ?_)
      rcases zin2.mp z.2 with q | q | q
      · exact z0 q
      · exact z1 q
      · exact z2 q
  · exact b2f h1 (bad (fun z => h1 z.1))
