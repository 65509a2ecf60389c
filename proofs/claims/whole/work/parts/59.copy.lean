/-! ===== copies of the class ===== -/
theorem sp_copyRow {h a n : Nat} {g : Nat → Int32} {M : Mem} {Q : Mem → Prop} (kh : kdT h = 3) (ka : kdT a = 3) (hR : RR M a (nI n) g) (hn : n ≤ lnT (h + 1)) (hn2 : n ≤ lnT (a + 1)) (hl : lnT (h + 1) < 2 ^ 31) (hne : a ≠ h ∧ a + 1 ≠ h ∧ a ≠ h + 1)
    (hQ : ∀ M', RR M' h (nI n) g → only (fun b => b = h ∨ b = h + 1) M M' → Q M') : wp_X3_copyFrom h a M Q := by
  unfold wp_X3_copyFrom
  refine ⟨kh, ka, ?_⟩
  intro M1 e1
  have ei : imn (M a 1) (nI (lnT (h + 1))) = nI n := by
    rw [hR.1]
    unfold imn
    by_cases q : nI (lnT (h + 1)) < nI n
    · exact absurd q (nI_nlt hn hl)
    · rw [if_neg q]
  rw [ei] at e1
  have e1h : M1 h 1 = nI n := by rw [e1]; exact mu_hit
  have z0 : (0 : Int32).toNatClampNeg = 0 := by decide
  rw [e1h, z0, nI_clamp (by omega)]
  refine ⟨⟨by decide, by decide, nI_pos (by omega), by omega, by omega⟩, ?_⟩
  intro M3 e3
  refine hQ M3 ⟨?_, fun j hj => ?_⟩ ?_
  · rw [e3, mcp_ne (by omega)]; exact e1h
  · rw [tn, nI_clamp (by omega)] at hj
    rw [e3, mcp_same]
    unfold va_cpy
    rw [if_pos ⟨by omega, by omega⟩, show 0 + (j - 0) = j from by omega, e1, mu_ne (by omega)]
    exact hR.2 j (by rw [tn, nI_clamp (by omega)]; exact hj)
  · rw [e3]
    intro b hb
    rw [mcp_ne (fun z => hb (Or.inr z)), e1, mu_ne (fun z => hb (Or.inl z))]
theorem code_n {sz : Int32} {g : Nat → Int32} (h : codeOK sz g) : ∃ n, n ≤ 50 ∧ (if sz < 0 then (0 : Int32) else sz) = nI n := by
  rcases h with rfl | ⟨n, _, h2, rfl, _⟩
  · exact ⟨0, by omega, by rw [if_pos (by decide)]; rfl⟩
  · exact ⟨n, h2, by rw [if_neg (nI_pos (by omega))]⟩
/-- a moor copied into another -/
theorem sp_copyMoor {h a ns nk hr : Nat} {r : Nat → Int32} {M : Mem} {Q : Mem → Prop} (kh : kdT h = 1) (ka : kdT a = 1) (hM : MR M a r) (hR : RO r ns nk hr) (hne : h + 29 ≤ a ∨ a + 29 ≤ h) (hm : M (h + 1) 0 = 99 ∧ M (h + 6) 0 = 1)
    (hQ : ∀ M', MR M' h r → only (mo h) M M' → Q M') : wp_X1_copyFrom h a M Q := by
  have n6 := hR.1.2
  have n7 := hR.2.1.2
  have t3 := hR.tn3
  have t2 := hR.tn2
  obtain ⟨m1, m1h, m1e⟩ := code_n hR.2.2.2.2.2.2.1
  obtain ⟨m2, m2h, m2e⟩ := code_n hR.2.2.2.2.2.2.2
  have kF := ks1_0 kh
  have kG := ks1_1 kh
  have aF := ks1_0 ka
  have aG := ks1_1 ka
  obtain ⟨l1, -⟩ := ln_law kF
  obtain ⟨l2, -⟩ := ln_law kG
  obtain ⟨l3, -⟩ := ln_law aF
  obtain ⟨l4, -⟩ := ln_law aG
  unfold wp_X1_copyFrom
  refine ⟨kh, ka, ?_⟩
  have hF : RR M (a + 1 + 1) (nI m1) (fun j => enc (r (142 + j))) := by rw [← m1e]; exact hM.2.2.2.2.1.2
  have hG : RR M (a + 6 + 1) (nI m2) (fun j => enc (r (192 + j))) := by rw [← m2e]; exact hM.2.2.2.2.2.2
  refine sp_copyRow (ks0_1 kF) (ks0_1 aF) hF (by omega) (by omega) (by omega) (by omega) (fun M1 r1 o1 => ?_)
  have hG1 : RR M1 (a + 6 + 1) (nI m2) (fun j => enc (r (192 + j))) := ⟨by rw [o1 _ (by omega)]; exact hG.1, fun j hj => by rw [o1 _ (by omega)]; exact hG.2 j hj⟩
  refine sp_copyRow (ks0_1 kG) (ks0_1 aG) hG1 (by omega) (by omega) (by omega) (by omega) (fun M2 r2 o2 => ?_)
  have r1' : RR M2 (h + 1 + 1) (nI m1) (fun j => enc (r (142 + j))) := ⟨by rw [o2 _ (by omega)]; exact r1.1, fun j hj => by rw [o2 _ (by omega)]; exact r1.2 j hj⟩
  have ho2 : only (mo h) M M2 := (o1.mono (fun b z => by unfold mo; omega)).tr (o2.mono (fun b z => by unfold mo; omega))
  -- what no later step touches
  have base : ∀ M', (∀ b, b = h + 1 ∨ b = h + 1 + 1 ∨ b = h + 1 + 1 + 1 ∨ b = h + 6 ∨ b = h + 6 + 1 ∨ b = h + 6 + 1 + 1 → M' b = M2 b) → LR M' (h + 1) 99 (r 6) (fun j => r (142 + j)) ∧ LR M' (h + 6) 1 (r 7) (fun j => r (192 + j)) := by
    intro M' hk
    refine ⟨⟨?_, ?_⟩, ⟨?_, ?_⟩⟩
    · rw [hk _ (by omega), o2 _ (by omega), o1 _ (by omega)]; exact hm.1
    · rw [m1e]; exact ⟨by rw [hk _ (by omega)]; exact r1'.1, fun j hj => by rw [hk _ (by omega)]; exact r1'.2 j hj⟩
    · rw [hk _ (by omega), o2 _ (by omega), o1 _ (by omega)]; exact hm.2
    · rw [m2e]; exact ⟨by rw [hk _ (by omega)]; exact r2.1, fun j hj => by rw [hk _ (by omega)]; exact r2.2 j hj⟩
  have src : ∀ M', only (mo h) M M' → ∀ b, a ≤ b → b < a + 29 → M' b = M b := fun M' ho b h1 h2 => ho b (by unfold mo; omega)
  -- SHEEP
  have p3 : ∀ (m i : Nat) (M1 : Mem), i + m = nk → only (mo h) M M1 → (∀ b, b = h + 1 ∨ b = h + 1 + 1 ∨ b = h + 1 + 1 + 1 ∨ b = h + 6 ∨ b = h + 6 + 1 ∨ b = h + 6 + 1 + 1 → M1 b = M2 b) → M1 h 6 = nI ns → M1 h 7 = nI nk → (∀ c, c < 10 → M1 (h + 11) c = r (8 + c)) →
      (∀ i, i < ns → M1 (h + 12 + 4 + i) 0 = r (18 + 2 * i) ∧ M1 (h + 12 + 4 + i) 1 = r (19 + 2 * i)) → (∀ j, j < i → ∀ k, k < 6 → M1 (h + 13 + 9 + j) k = r (30 + 6 * j + k)) → l_X1_copyFrom_119 h Q a (m + 1) (nI i) M1 := by
    intro m
    induction m with
    | zero =>
      intro i M1 hi ho hb h6 h7 hs hk hp
      have : i = nk := by omega
      subst this
      show B_X1_copyFrom_119 h Q _ _ _ _
      unfold B_X1_copyFrom_119
      rw [h7]
      refine br_t (nI_le (Nat.le_refl _) (by omega)) ?_
      intro M3 e3
      have e8 : M1 a 8 = r 0 := by rw [src M1 ho a (by omega) (by omega)]; exact hM.1.1
      rw [e8] at e3
      have hL := base M3 (fun b hb' => by rw [e3, mu_ne (by omega)]; exact hb b hb')
      refine hQ M3 ⟨⟨by rw [e3]; exact mu_hit, ?_, ?_⟩, fun c hc => ?_, fun j hj => ?_, fun j hj k hk' => ?_, hL.1, hL.2⟩ ?_
      · rw [e3, mu_off (by decide), h7]; exact hR.2.1.1.symm
      · rw [e3, mu_off (by decide), h6]; exact hR.1.1.symm
      · rw [e3, mu_ne (by omega)]; exact hs c hc
      · rw [t3] at hj
        rw [e3, mu_ne (by omega)]; exact hk j hj
      · rw [t2] at hj
        rw [e3, mu_ne (by omega)]; exact hp j hj k hk'
      · rw [e3]; exact ho.tr (only.mu ⟨by omega, by omega⟩)
    | succ m ih =>
      intro i M1 hi ho hb h6 h7 hs hk hp
      show B_X1_copyFrom_119 h Q _ _ _ _
      unfold B_X1_copyFrom_119
      rw [h7]
      refine br_f (nI_ge (by omega) (by omega)) ⟨vp_in_nI (by omega) (by decide), vp_in_nI (by omega) (by decide), ?_⟩
      rw [nI_clamp (by omega)]
      unfold wp_X5_copyFrom
      refine ⟨ke13 (ks1_4 kh) (by rw [ln1_4 kh]; omega), ke13 (ks1_4 ka) (by rw [ln1_4 ka]; omega), ?_⟩
      have S : ∀ w, w < 6 → M1 (a + 13 + 9 + i) w = r (30 + 6 * i + w) := fun w hw => by
        rw [src M1 ho _ (by omega) (by omega)]; exact hM.2.2.2.1 i (by rw [t2]; omega) w hw
      intro N1 f1 N2 f2 N3 f3 N4 f4 N5 f5
      rw [f1, mu_ne (by omega)] at f2
      rw [f2, mu_ne (by omega), mu_ne (by omega)] at f3
      rw [f3, mu_ne (by omega), mu_ne (by omega), mu_ne (by omega)] at f4
      rw [f4, mu_ne (by omega), mu_ne (by omega), mu_ne (by omega), mu_ne (by omega)] at f5
      have g5 : N5 (a + 13 + 9 + i) = M1 (a + 13 + 9 + i) := by rw [f5, mu_ne (by omega), mu_ne (by omega), mu_ne (by omega), mu_ne (by omega), mu_ne (by omega)]
      rw [g5, S 5 (by decide)]
      obtain ⟨j5, hj5, ej5⟩ := hR.fld (k := i) (w := 5) (by omega) (by decide)
      have hj5 : j5 ≤ 1 := hj5
      refine ⟨?_, ?_⟩
      · rw [ej5]
        have : j5 = 0 ∨ j5 = 1 := by omega
        rcases this with rfl | rfl
        · exact Or.inl rfl
        · exact Or.inr rfl
      · intro N6 f6 x ex
        rw [nI_1] at ex
        subst ex
        have away : ∀ b, b ≠ h + 13 + 9 + i → N6 b = M1 b := fun b hb' => by
          rw [f6, mu_ne hb', f5, mu_ne hb', mu_ne hb', mu_ne hb', mu_ne hb', mu_ne hb']
        refine ih (i + 1) N6 (by omega) (ho.tr (fun b hb' => away b (fun z => hb' (by rw [z]; unfold mo; omega)))) (fun b hb' => (away b (by omega)).trans (hb b hb')) (by rw [away h (by omega)]; exact h6) (by rw [away h (by omega)]; exact h7) (fun c hc => by rw [away _ (by omega)]; exact hs c hc) (fun j hj => by rw [away _ (by omega)]; exact hk j hj) (fun j hj k hk' => ?_)
        by_cases q : j = i
        · subst q
          have : k = 0 ∨ k = 1 ∨ k = 2 ∨ k = 3 ∨ k = 4 ∨ k = 5 := by omega
          rcases this with rfl | rfl | rfl | rfl | rfl | rfl
          · rw [f6, mu_off (by decide), f5, mu_off (by decide), mu_off (by decide), mu_off (by decide), mu_off (by decide), mu_hit]; exact S 0 (by decide)
          · rw [f6, mu_off (by decide), f5, mu_off (by decide), mu_off (by decide), mu_off (by decide), mu_hit]; exact S 1 (by decide)
          · rw [f6, mu_off (by decide), f5, mu_off (by decide), mu_off (by decide), mu_hit]; exact S 2 (by decide)
          · rw [f6, mu_off (by decide), f5, mu_off (by decide), mu_hit]; exact S 3 (by decide)
          · rw [f6, mu_off (by decide), f5, mu_hit]; exact S 4 (by decide)
          · rw [f6, mu_hit]
        · rw [away _ (by omega)]; exact hp j (by omega) k hk'
  -- SEEKERS
  have p2 : ∀ (m i : Nat) (M1 : Mem), i + m = ns → only (mo h) M M1 → (∀ b, b = h + 1 ∨ b = h + 1 + 1 ∨ b = h + 1 + 1 + 1 ∨ b = h + 6 ∨ b = h + 6 + 1 ∨ b = h + 6 + 1 + 1 → M1 b = M2 b) → M1 h 6 = nI ns → (∀ c, c < 10 → M1 (h + 11) c = r (8 + c)) →
      (∀ j, j < i → M1 (h + 12 + 4 + j) 0 = r (18 + 2 * j) ∧ M1 (h + 12 + 4 + j) 1 = r (19 + 2 * j)) → l_X1_copyFrom_75 h Q a (m + 1) (nI i) M1 := by
    intro m
    induction m with
    | zero =>
      intro i M1 hi ho hb h6 hs hk
      have : i = ns := by omega
      subst this
      show B_X1_copyFrom_75 h Q _ _ _ _
      unfold B_X1_copyFrom_75
      rw [h6]
      refine br_t (nI_le (Nat.le_refl _) (by omega)) ?_
      intro M3 e3
      have e7 : M1 a 7 = nI nk := by rw [src M1 ho a (by omega) (by omega)]; exact hM.1.2.1.trans hR.2.1.1
      have ei : imn (nI nk) 7 = nI nk := by
        unfold imn
        by_cases q : (7 : Int32) < nI nk
        · exact absurd q (fun z => nI_nlt (a := 7) (b := nk) (by omega) (by omega) z)
        · rw [if_neg q]
      rw [e7, ei] at e3
      exact ⟨nk + 1, p3 nk 0 M3 (by omega) (by rw [e3]; exact ho.tr (only.mu ⟨by omega, by omega⟩)) (fun b hb' => by rw [e3, mu_ne (by omega)]; exact hb b hb') (by rw [e3, mu_off (by decide)]; exact h6) (by rw [e3]; exact mu_hit) (fun c hc => by rw [e3, mu_ne (by omega)]; exact hs c hc) (fun j hj => by rw [e3, mu_ne (by omega)]; exact hk j hj) (fun j hj => by omega)⟩
    | succ m ih =>
      intro i M1 hi ho hb h6 hs hk
      show B_X1_copyFrom_75 h Q _ _ _ _
      unfold B_X1_copyFrom_75
      rw [h6]
      refine br_f (nI_ge (by omega) (by omega)) ⟨vp_in_nI (by omega) (by decide), vp_in_nI (by omega) (by decide), ?_⟩
      rw [nI_clamp (by omega)]
      unfold wp_X4_copyFrom
      refine ⟨ke12 (ks1_3 kh) (by rw [ln1_3 kh]; omega), ke12 (ks1_3 ka) (by rw [ln1_3 ka]; omega), ?_⟩
      obtain ⟨s0, s1⟩ := hM.2.2.1 i (by rw [t3]; omega)
      have S0 : M1 (a + 12 + 4 + i) = M (a + 12 + 4 + i) := src M1 ho _ (by omega) (by omega)
      intro N1 f1 N2 f2 x ex
      rw [nI_1] at ex
      subst ex
      rw [f1, mu_ne (by omega)] at f2
      have away : ∀ b, b ≠ h + 12 + 4 + i → N2 b = M1 b := fun b hb' => by rw [f2, mu_ne hb', mu_ne hb']
      refine ih (i + 1) N2 (by omega) (ho.tr (fun b hb' => away b (fun z => hb' (by rw [z]; unfold mo; omega)))) (fun b hb' => (away b (by omega)).trans (hb b hb')) (by rw [away h (by omega)]; exact h6) (fun c hc => by rw [away _ (by omega)]; exact hs c hc) (fun j hj => ?_)
      by_cases q : j = i
      · subst q
        refine ⟨?_, ?_⟩
        · rw [f2, mu_off (by decide), mu_hit, S0]; exact s0
        · rw [f2, mu_hit, S0]; exact s1
      · rw [away _ (by omega)]; exact hk j (by omega)
  -- the snow
  have p1 : ∀ (m i : Nat) (M1 : Mem), i + m = 10 → only (mo h) M M1 → (∀ b, b = h + 1 ∨ b = h + 1 + 1 ∨ b = h + 1 + 1 + 1 ∨ b = h + 6 ∨ b = h + 6 + 1 ∨ b = h + 6 + 1 + 1 → M1 b = M2 b) → (∀ c, c < i → M1 (h + 11) c = r (8 + c)) → l_X1_copyFrom_36 h Q a (m + 1) (nI i) M1 := by
    intro m
    induction m with
    | zero =>
      intro i M1 hi ho hb hs
      have : i = 10 := by omega
      subst this
      show B_X1_copyFrom_36 h Q _ _ _ _
      unfold B_X1_copyFrom_36
      refine br_t (by decide) ?_
      intro M3 e3
      have e6 : M1 a 6 = nI ns := by rw [src M1 ho a (by omega) (by omega)]; exact hM.1.2.2.trans hR.1.1
      have ei : imn (nI ns) 6 = nI ns := by
        unfold imn
        by_cases q : (6 : Int32) < nI ns
        · exact absurd q (fun z => nI_nlt (a := 6) (b := ns) (by omega) (by omega) z)
        · rw [if_neg q]
      rw [e6, ei] at e3
      exact ⟨ns + 1, p2 ns 0 M3 (by omega) (by rw [e3]; exact ho.tr (only.mu ⟨by omega, by omega⟩)) (fun b hb' => by rw [e3, mu_ne (by omega)]; exact hb b hb') (by rw [e3]; exact mu_hit) (fun c hc => by rw [e3, mu_ne (by omega)]; exact hs c hc) (fun j hj => by omega)⟩
    | succ m ih =>
      intro i M1 hi ho hb hs
      show B_X1_copyFrom_36 h Q _ _ _ _
      unfold B_X1_copyFrom_36
      refine br_f (fun z => nI_ge (a := i) (b := 10) (by omega) (by decide) z) ⟨vp_in_nI (by omega) (by decide), vp_in_nI (by omega) (by decide), ?_⟩
      rw [nI_clamp (by omega)]
      intro N1 f1 x ex
      rw [nI_1] at ex
      subst ex
      have e11 : M1 (a + 11) i = r (8 + i) := by rw [src M1 ho _ (by omega) (by omega)]; exact hM.2.1 i (by omega)
      rw [e11] at f1
      refine ih (i + 1) N1 (by omega) (by rw [f1]; exact ho.tr (only.mu ⟨by omega, by omega⟩)) (fun b hb' => by rw [f1, mu_ne (by omega)]; exact hb b hb') (fun c hc => ?_)
      by_cases q : c = i
      · subst q; rw [f1]; exact mu_hit
      · rw [f1, mu_off q]; exact hs c (by omega)
  exact ⟨11, p1 10 0 M2 (by omega) ho2 (fun b _ => rfl) (fun c hc => by omega)⟩
/-- a World copied into another -/
theorem sp_copyWorld {h a ns nk hr nt nw : Nat} {r : Nat → Int32} {M : Mem} {Q : Mem → Prop} (kh : kdT h = 8) (ka : kdT a = 8) (hW : WR M a r) (hR : RO r ns nk hr) (ht : r 4 = nI nt ∧ nt ≤ 50) (hw : r 5 = nI nw ∧ nw ≤ 20) (hne : h + 34 ≤ a ∨ a + 34 ≤ h) (hm : M (h + 1 + 1) 0 = 99 ∧ M (h + 1 + 6) 0 = 1)
    (ln : lnT (h + 30 + 1) = 50 ∧ lnT (a + 30 + 1) = 50 ∧ lnT (h + 32 + 1) = 20 ∧ lnT (a + 32 + 1) = 20) (hQ : ∀ M', WR M' h r → only (fun b => h ≤ b ∧ b < h + 34) M M' → Q M') : wp_X8_copyFrom h a M Q := by
  obtain ⟨w1, w2, w3, w4⟩ := hW
  unfold wp_X8_copyFrom
  refine ⟨kh, ka, ?_⟩
  refine sp_copyMoor (ks8_0 kh) (ks8_0 ka) w2 hR (by omega) hm (fun M1 m1 o1 => ?_)
  have k1 : ∀ b, (b < h + 1 ∨ h + 1 + 29 ≤ b) → M1 b = M b := fun b hb => o1 b (by unfold mo; omega)
  refine sp_copyRow (n := nt) (g := fun j => r (72 + j)) (ks8_1 kh) (ks8_1 ka) ?_ (by omega) (by omega) (by omega) (by omega) (fun M2 r2 o2 => ?_)
  · rw [← ht.1]; exact ⟨by rw [k1 _ (by omega)]; exact w3.1, fun j hj => by rw [k1 _ (by omega)]; exact w3.2 j hj⟩
  refine sp_copyRow (n := nw) (g := fun j => r (122 + j)) (ks8_2 kh) (ks8_2 ka) ?_ (by omega) (by omega) (by omega) (by omega) (fun M3 r3 o3 => ?_)
  · rw [← hw.1]; exact ⟨by rw [o2 _ (by omega), k1 _ (by omega)]; exact w4.1, fun j hj => by rw [o2 _ (by omega), k1 _ (by omega)]; exact w4.2 j hj⟩
  intro M4 e4
  have z : M3 a 3 = r 1 := by rw [o3 _ (by omega), o2 _ (by omega), k1 _ (by omega)]; exact w1
  rw [z] at e4
  have k4 : ∀ b, b ≠ h → b ≠ h + 30 → b ≠ h + 30 + 1 → b ≠ h + 32 → b ≠ h + 32 + 1 → M4 b = M1 b := fun b h1 h2 h3 h4 h5 => by
    rw [e4, mu_ne h1, o3 b (by omega), o2 b (by omega)]
  refine hQ M4 ⟨by rw [e4]; exact mu_hit, ?_, ?_, ?_⟩ (fun b hb => ?_)
  · exact m1.kept (by rw [hR.tn3]; exact hR.1.2) (by rw [hR.tn2]; exact hR.2.1.2) (fun b hb1 hb2 _ => k4 b (by omega) (by omega) (by omega) (by omega) (by omega))
  · rw [ht.1]
    exact ⟨by rw [e4, mu_ne (by omega), o3 _ (by omega)]; exact r2.1, fun j hj => by rw [e4, mu_ne (by omega), o3 _ (by omega)]; exact r2.2 j hj⟩
  · rw [hw.1]
    exact ⟨by rw [e4, mu_ne (by omega)]; exact r3.1, fun j hj => by rw [e4, mu_ne (by omega)]; exact r3.2 j hj⟩
  · rw [k4 b (by omega) (by omega) (by omega) (by omega) (by omega), k1 b (by omega)]
