/-! ===== loose, count ===== -/
theorem ius8 (z : Int32) : ∃ d, d < 2 ^ 24 ∧ ius z 8 = nI d := by
  have h := pk_ushr z 8 8 (by decide)
  refine ⟨z.toBitVec.toNat / 2 ^ 8, ?_, ?_⟩
  · have : z.toBitVec.toNat < 2 ^ 32 := z.toBitVec.isLt
    omega
  · have hb : (ius z 8).toBitVec = (nI (z.toBitVec.toNat / 2 ^ 8)).toBitVec := by
      apply BitVec.eq_of_toNat_eq
      have hlt : z.toBitVec.toNat < 2 ^ 32 := z.toBitVec.isLt
      rw [pk_tn (by omega)]
      exact h
    exact Int32.toBitVec_inj.mp hb
def zN (z : Int32) : Int32 := z * 1103515245 + 12345
/-- a draw: SNOW of a CELL is more -/
def drf (r : Nat → Int32) : Nat → Int32 :=
  upd (upd r 1 (zN (r 1))) (8 + tn (irm (ius (zN (r 1)) 8) 10)) (heldZ (r (8 + tn (irm (ius (zN (r 1)) 8) 10)) + irm (ius (zN (r 1)) 8 / 8) 30) 0 999)
noncomputable def looZ (ns nk : Nat) (r : Nat → Int32) : Nat → Nat → Int32
  | 0 => r
  | i + 1 => hourZ ns nk (drf (looZ ns nk r i))
theorem drf_c (z : Int32) : ∃ c, c < 10 ∧ irm (ius z 8) 10 = nI c := by
  obtain ⟨d, hd, e⟩ := ius8 z
  exact ⟨d % 10, by omega, by rw [e]; exact irm_n (by omega) (by decide) (by decide)⟩
theorem drf_RO {r : Nat → Int32} {ns nk hr : Nat} (h : RO r ns nk hr) : RO (drf r) ns nk hr := by
  obtain ⟨c, hc, e⟩ := drf_c (zN (r 1))
  unfold drf
  rw [e, tn, nI_clamp (by omega)]
  exact (h.ext (r' := upd r 1 (zN (r 1))) (fun i hi => upd_off hi.1)).snow (zb_held (n := 999) (by decide)) hc
theorem loo_RO {r : Nat → Int32} {ns nk hr : Nat} (h : RO r ns nk hr) : ∀ n, hr + n < 20000 → RO (looZ ns nk r n) ns nk (hr + n)
  | 0, _ => h
  | n + 1, hn => hour_RO (drf_RO (loo_RO h n (by omega))) (by omega)
theorem drf_low {r : Nat → Int32} {i : Nat} (hi : i < 8 ∨ 18 ≤ i) (h1 : i ≠ 1) : drf r i = r i := by
  obtain ⟨c, hc, e⟩ := drf_c (zN (r 1))
  unfold drf
  rw [e, tn, nI_clamp (by omega), upd_off (by omega), upd_off h1]
theorem loo_low {r : Nat → Int32} {ns nk hr i : Nat} (hR : RO r ns nk hr) (hi : i < 8 ∨ 72 ≤ i) (h0 : i ≠ 0) (h1 : i ≠ 1) : ∀ n, hr + n < 20000 → looZ ns nk r n i = r i
  | 0, _ => rfl
  | n + 1, hn => (hour_low (drf_RO (loo_RO hR n (by omega))) hi h0).trans ((drf_low (by omega) h1).trans (loo_low hR hi h0 h1 n (by omega)))
theorem call_loose {n : Nat} {M : Mem} (h : INV n M) (a : Int32) : wp_X9_loose 0 a M (fun r M1 => wp_X10_loose 120 a M1 (fun r2 M2 => r = r2 ∧ INV (n + 1) M2)) := by
  obtain ⟨ns, nk, hr, hR, hh⟩ := h.ro
  have n6 := hR.1.2
  have n7 := hR.2.1.2
  have e28 : M (0 + 1 + 1) 8 = nI hr := h.mr.1.1.trans hR.2.2.1.1
  have bad : ¬ zin a 1 40 → wp_X9_refuse 0 1 M (fun r M1 => wp_X10_loose 120 a M1 (fun r2 M2 => r = r2 ∧ INV (n + 1) M2)) := by
    intro hb
    refine sp_refuse (k := 1) (by decide) (by decide) ?_
    unfold wp_X10_loose
    refine ⟨by decide, ?_⟩
    rw [e_in]
    exact b2f hb (fin_err (e := -1000000001) h (k := 1) (by decide) (by decide) rfl)
  unfold wp_X9_loose b_X9_loose_11
  refine ⟨by decide, ?_⟩
  rw [e28]
  by_cases h1 : a < 1
  · exact br_t h1 (bad (fun z => nlt_le.mpr h1 z.1))
  · refine br_f h1 ?_
    by_cases h2 : a ≤ 40
    · refine br_t h2 ?_
      have hz : zin a 1 40 := ⟨nle_lt.mp h1, h2⟩
      obtain ⟨k, k1, k2, rfl⟩ := (zin1 (m := 40) (by decide)).mp hz
      rw [nI_add]
      by_cases h3 : hr + k ≤ 9999
      · refine br_t (nI_le (b := 9999) h3 (by decide)) ?_
        obtain ⟨r, er⟩ : ∃ r, r = M 121 := ⟨_, rfl⟩
        have hR0 := hR
        rw [← er] at hR
        -- the class
        have pc : ∀ (m i : Nat) (M1 : Mem), i + m = k → MR M1 2 (looZ ns nk r i) → M1 1 3 = looZ ns nk r i 1 → only (fun b => 1 ≤ b ∧ b < 31) M M1 → l_X9_loose_43 0 (fun r M1 => wp_X10_loose 120 (nI k) M1 (fun r2 M2 => r = r2 ∧ INV (n + 1) M2)) (nI k) (m + 1) (nI i) M1 := by
          intro m
          induction m with
          | zero =>
            intro i M1 hi hM1 hz1 ho
            have : i = k := by omega
            subst this
            have hRn := loo_RO hR i (by omega)
            show B_X9_loose_43 0 _ _ _ _ _
            unfold B_X9_loose_43
            refine br_t (nI_le (Nat.le_refl _) (by omega)) ?_
            refine sp_foundSet (o := 2) (by decide) hM1 hRn ?_
            have hi2 : ∀ b, 120 ≤ b → M1 b = M b := fun b hb => ho b (by omega)
            unfold wp_X10_loose
            refine ⟨by decide, ?_⟩
            rw [e_in]
            refine b2t hz ?_
            rw [show M1 (120 + 1) = M 121 from hi2 121 (by decide), hR0.2.2.1.1, nI_add]
            refine br_t (nI_le (b := 9999) h3 (by decide)) ?_
            -- the reference
            have pm : ∀ (m j : Nat) (P : Mem), j + m = i → P 121 = looZ ns nk r j → only scrH M1 P → l_X10_loose_40 120 (fun r2 M2 => fsZ (looZ ns nk r i) nk = r2 ∧ INV (n + 1) M2) (nI i) (m + 1) (nI j) P := by
              intro m
              induction m with
              | zero =>
                intro j P hj eP hoP
                have : j = i := by omega
                subst this
                show B_X10_loose_40 120 _ _ _ _ _
                unfold B_X10_loose_40
                refine br_t (nI_le (Nat.le_refl _) (by omega)) ?_
                refine sp_mFound (by rw [eP]; exact hRn) ⟨by rw [eP], ?_⟩
                refine h.row (r := looZ ns nk r j) (M1 := M1) (RW.ro (ns := 0) (nk := 0) (hr := 0) h.2.1.1 hRn (by omega) (fun i hi3 => by rw [loo_low hR (by omega) (by omega) (by omega) j (by omega), er])) ?_ (fun b g1 g2 _ => ho b (by omega)) (fun b hb => hoP b (by unfold scrH; omega)) ?_ eP (fun i hi3 => ?_)
                · have hw := h.1.1
                  have L : ∀ i, (i = 4 ∨ i = 5 ∨ (72 ≤ i ∧ i < 142)) → looZ ns nk r j i = M 121 i := fun i hi3 => by rw [loo_low hR (by omega) (by omega) (by omega) j (by omega), er]
                  obtain ⟨_, _, _, nt, nw, _, _, ht, hw5, _⟩ := h.2.1.1
                  refine ⟨hz1, hM1, ⟨?_, fun q hq => ?_⟩, ⟨?_, fun q hq => ?_⟩⟩
                  · rw [ho _ (by omega), L 4 (by omega)]; exact hw.2.2.1.1
                  · rw [L 4 (by omega)] at hq
                    have hq2 := hq
                    rw [ht.1, tn, nI_clamp (by omega)] at hq2
                    dsimp only
                    rw [ho _ (by omega), L _ (by omega)]; exact hw.2.2.1.2 q hq
                  · rw [ho _ (by omega), L 5 (by omega)]; exact hw.2.2.2.1
                  · rw [L 5 (by omega)] at hq
                    have hq2 := hq
                    rw [hw5.1, tn, nI_clamp (by omega)] at hq2
                    dsimp only
                    rw [ho _ (by omega), L _ (by omega)]; exact hw.2.2.2.2 q hq
                · have K : ∀ b, 120 ≤ b → ¬ scrH b → P b = M b := fun b hb hq => by rw [hoP b hq]; exact hi2 b hb
                  refine ⟨by simp, ?_, ?_, ?_, ?_, ?_, ?_, ?_, ?_, ?_⟩
                  all_goals (simp; rw [K _ (by decide) (by unfold scrH; omega)])
                · rw [eP, hoP 122 (by unfold scrH; omega), hoP 123 (by unfold scrH; omega), hi2 122 (by decide), hi2 123 (by decide), loo_low hR (by omega) (by omega) (by omega) j (by omega), er]
                  exact h.2.2 i hi3
              | succ m ih =>
                intro j P hj eP hoP
                show B_X10_loose_40 120 _ _ _ _ _
                unfold B_X10_loose_40
                refine br_f (nI_ge (by omega) (by omega)) ?_
                have hRj := loo_RO hR j (by omega)
                obtain ⟨c, hc, ec⟩ := drf_c (zN (looZ ns nk r j 1))
                have er2 : drf (looZ ns nk r j) = upd (upd (looZ ns nk r j) 1 (zN (looZ ns nk r j 1))) (8 + c) (heldZ (looZ ns nk r j (8 + c) + irm (ius (zN (looZ ns nk r j 1)) 8 / 8) 30) 0 999) := by unfold drf; rw [ec, tn, nI_clamp (by omega)]
                unfold wp_X10_drawn
                refine ⟨by decide, ?_⟩
                intro P1 e1
                have f1 : P1 121 = upd (looZ ns nk r j) 1 (zN (looZ ns nk r j 1)) := by rw [e1, show (120 + 1 : Nat) = 121 from rfl, mu_same, eP]; rfl
                have f1z : P1 (120 + 1) 1 = zN (looZ ns nk r j 1) := by rw [show P1 (120 + 1) = _ from f1]; exact upd_hit
                rw [f1z]
                intro x ex
                rw [ec, show (8 : Int32) = nI 8 from rfl, nI_add] at ex
                subst ex
                refine ⟨vp_in_nI (by omega) (by decide), ?_⟩
                rw [nI_clamp (by omega), e_held]
                refine ⟨vp_in_nI (by omega) (by decide), ?_⟩
                intro P2 e2
                rw [show P1 (120 + 1) = _ from f1, upd_off (by omega)] at e2
                have f2 : P2 121 = drf (looZ ns nk r j) := by rw [e2, show (120 + 1 : Nat) = 121 from rfl, mu_same, f1, er2]
                refine sp_mHour (by rw [f2]; exact drf_RO hRj) (fun P3 e3 _ ho3 => ?_)
                intro x ex
                rw [nI_1] at ex
                subst ex
                refine ih (j + 1) P3 (by omega) (by rw [e3, f2]; rfl) (hoP.tr ((only.mono (S := fun b => b = 121) (fun b hb => ?_) (fun b z => Or.inl z)).tr ho3))
                rw [e2, mu_ne hb, e1, mu_ne hb]
            exact ⟨i + 1, pm i 0 M1 (by omega) (by rw [hi2 121 (by decide)]; exact er.symm) only.rf⟩
          | succ m ih =>
            intro i M1 hi hM1 hz1 ho
            show B_X9_loose_43 0 _ _ _ _ _
            unfold B_X9_loose_43
            refine br_f (nI_ge (by omega) (by omega)) ?_
            have hRi := loo_RO hR i (by omega)
            obtain ⟨c, hc, ec⟩ := drf_c (zN (looZ ns nk r i 1))
            have er2 : drf (looZ ns nk r i) = upd (upd (looZ ns nk r i) 1 (zN (looZ ns nk r i 1))) (8 + c) (heldZ (looZ ns nk r i (8 + c) + irm (ius (zN (looZ ns nk r i 1)) 8 / 8) 30) 0 999) := by unfold drf; rw [ec, tn, nI_clamp (by omega)]
            unfold wp_X8_drift
            refine ⟨by decide, ?_⟩
            intro P1 e1 x ex
            have f1 : P1 (0 + 1) 3 = zN (looZ ns nk r i 1) := by rw [e1, mu_hit, show M1 (0 + 1) 3 = _ from hz1]; rfl
            rw [f1] at ex
            subst ex
            rw [ec]
            have hMa : MR P1 2 (upd (looZ ns nk r i) 1 (zN (looZ ns nk r i 1))) := by
              refine MR.ext (r := looZ ns nk r i) (hM1.kept (by rw [hRi.tn3]; omega) (by rw [hRi.tn2]; omega) (fun b g1 g2 _ => by rw [e1, mu_ne (by omega)])) ⟨by rw [hRi.tn3]; omega, by rw [hRi.tn2]; omega⟩ (fun j hj => upd_off hj.1)
            refine sp_drop (o := 2) (by decide) hc ?_
            have hMb := hMa.snow (c := c) (v := heldZ (P1 (2 + 11) c + irm (ius (zN (looZ ns nk r i 1)) 8 / 8) 30) 0 999) hc
            have eb : P1 (2 + 11) c = looZ ns nk r i (8 + c) := by rw [hMa.2.1 c hc, upd_off (by omega)]
            rw [eb, ← er2] at hMb
            refine sp_passHours (n := 1) (o := 2) (by decide) (show MR _ 2 (drf (looZ ns nk r i)) from by rw [show P1 (2 + 11) c = _ from eb]; exact hMb) (drf_RO hRi) (by omega) (fun M3 hM3 _ ho3 => ?_)
            intro y ey
            rw [nI_1] at ey
            subst ey
            have f3 : M3 1 = mu P1 (2 + 11) c (heldZ (P1 (2 + 11) c + irm (ius (zN (looZ ns nk r i 1)) 8 / 8) 30) 0 999) 1 := ho3 1 (by unfold mo; omega)
            refine ih (i + 1) M3 (by omega) hM3 ?_ (fun b hb => ?_)
            · rw [f3, mu_ne (by decide), show P1 1 3 = _ from f1]
              show _ = hourZ ns nk (drf (looZ ns nk r i)) 1
              rw [hour_low (drf_RO hRi) (by omega) (by decide), er2, upd_off (by omega), upd_hit]
            · rw [ho3 b (by unfold mo; omega), mu_ne (by omega), e1, mu_ne (by omega)]; exact ho b hb
        exact ⟨k + 1, pc k 0 M (by omega) (by rw [er]; exact h.mr) (by rw [er]; exact h.1.1.1) only.rf⟩
      · refine br_f (fun z => h3 ?_) ?_
        · rw [show (9999 : Int32) = nI 9999 from rfl, nI_leI (by omega) (by decide)] at z; exact z
        · refine sp_refuse (k := 3) (by decide) (by decide) ?_
          unfold wp_X10_loose
          refine ⟨by decide, ?_⟩
          rw [e_in]
          refine b2t hz ?_
          rw [show (mu M 107 3 (M 107 3 + 1)) (120 + 1) = M 121 from mu_ne (by decide), hR.2.2.1.1, nI_add]
          refine br_f (fun z => h3 ?_) (fin_err (e := -1000000003) h (k := 3) (by decide) (by decide) rfl)
          rw [show (9999 : Int32) = nI 9999 from rfl, nI_leI (by omega) (by decide)] at z; exact z
    · exact br_f h2 (bad (fun z => h2 z.2))
def lsZ (r : Nat → Int32) : Nat → Int32
  | 0 => 0
  | k + 1 => lsZ r k ||| (if r (30 + 6 * k + 5) = 0 ∧ r (30 + 6 * k + 3) = 0 then ish 1 (nI k) else 0)
theorem sp_lost {ns nk hr : Nat} {r : Nat → Int32} {M : Mem} {Q : Int32 → Mem → Prop} (hM : MR M 2 r) (hR : RO r ns nk hr) (hQ : Q (lsZ r nk) M) : wp_X1_lostSet 2 M Q := by
  have n7 := hR.2.1.2
  have p : ∀ (m i : Nat), i + m = nk → l_X1_lostSet_4 2 Q (m + 1) (lsZ r i) (nI i) M := by
    intro m
    induction m with
    | zero =>
      intro i hi
      have : i = nk := by omega
      subst this
      show B_X1_lostSet_4 2 Q _ _ _ _
      unfold B_X1_lostSet_4
      rw [show M 2 7 = nI i from hM.1.2.1.trans hR.2.1.1]
      exact br_t (nI_le (Nat.le_refl _) (by omega)) hQ
    | succ m ih =>
      intro i hi
      show B_X1_lostSet_4 2 Q _ _ _ _
      unfold B_X1_lostSet_4
      rw [show M 2 7 = nI nk from hM.1.2.1.trans hR.2.1.1]
      refine br_f (nI_ge (by omega) (by omega)) ⟨vp_in_nI (by omega) (by decide), ?_⟩
      rw [nI_clamp (by omega)]
      have fin : ∀ x : Int32, x = (if r (30 + 6 * i + 5) = 0 ∧ r (30 + 6 * i + 3) = 0 then ish 1 (nI i) else 0) → b_X1_lostSet_32 2 Q (l_X1_lostSet_4 2 Q (m + 1)) (nI i) (lsZ r i) x M := by
        intro x ex
        unfold b_X1_lostSet_32
        intro y ey z ez
        rw [nI_1] at ez
        subst ez ey ex
        exact ih (i + 1) (by omega)
      unfold wp_X5_isLost
      refine ⟨ke13 (ks1_4 (h := 2) (by decide)) (by rw [ln1_4 (h := 2) (by decide)]; omega), ?_⟩
      rw [hM.2.2.2.1 i (by rw [hR.tn2]; omega) 5 (by decide), hM.2.2.2.1 i (by rw [hR.tn2]; omega) 3 (by decide)]
      by_cases a : r (30 + 6 * i + 5) = 0
      · refine ⟨fun z => absurd a z, fun _ => ?_⟩
        by_cases b : r (30 + 6 * i + 3) = 0
        · exact ⟨fun z => absurd b z, fun _ => ⟨fun z => absurd z (by decide), fun _ => fin _ (by rw [if_pos ⟨a, b⟩])⟩⟩
        · exact ⟨fun _ => ⟨fun _ => fin _ (by rw [if_neg (fun z => b z.2)]), fun z => absurd rfl z⟩, fun z => absurd z b⟩
      · exact ⟨fun _ => ⟨fun _ => fin _ (by rw [if_neg (fun z => a z.1)]), fun z => absurd rfl z⟩, fun z => absurd z a⟩
  unfold wp_X1_lostSet
  exact ⟨by decide, nk + 1, p nk 0 (by omega)⟩
theorem sp_mIsLost {k : Nat} {M : Mem} {Q : Int32 → Mem → Prop} (hk : k < 7) (h1 : (M 121 (30 + 6 * k + 5) = 0 ∧ M 121 (30 + 6 * k + 3) = 0) → Q 1 M) (h0 : ¬ (M 121 (30 + 6 * k + 5) = 0 ∧ M 121 (30 + 6 * k + 3) = 0) → Q 0 M) : wp_X10_isLost 120 (nI k) M Q := by
  unfold wp_X10_isLost
  refine ⟨by decide, sp_its (w := 5) hk (by decide) ?_⟩
  by_cases a : M 121 (30 + 6 * k + 5) = 0
  · refine ⟨fun z => absurd a z, fun _ => sp_its (w := 3) hk (by decide) ?_⟩
    by_cases b : M 121 (30 + 6 * k + 3) = 0
    · exact ⟨fun z => absurd b z, fun _ => h1 ⟨a, b⟩⟩
    · exact ⟨fun _ => h0 (fun z => b z.2), fun z => absurd z b⟩
  · exact ⟨fun _ => h0 (fun z => a z.1), fun z => absurd z a⟩
theorem sp_mLost {ns nk hr : Nat} {M : Mem} {Q : Int32 → Mem → Prop} (hR : RO (M 121) ns nk hr) (hQ : Q (lsZ (M 121) nk) M) : wp_X10_lostSet 120 M Q := by
  have n7 := hR.2.1.2
  have p : ∀ (m i : Nat), i + m = nk → l_X10_lostSet_4 120 Q (m + 1) (lsZ (M 121) i) (nI i) M := by
    intro m
    induction m with
    | zero =>
      intro i hi
      have : i = nk := by omega
      subst this
      show B_X10_lostSet_4 120 Q _ _ _ _
      unfold B_X10_lostSet_4
      rw [show M (120 + 1) 2 = nI i from hR.2.1.1]
      exact br_t (nI_le (Nat.le_refl _) (by omega)) hQ
    | succ m ih =>
      intro i hi
      show B_X10_lostSet_4 120 Q _ _ _ _
      unfold B_X10_lostSet_4
      rw [show M (120 + 1) 2 = nI nk from hR.2.1.1]
      refine br_f (nI_ge (by omega) (by omega)) ?_
      have fin : ∀ x : Int32, x = (if M 121 (30 + 6 * i + 5) = 0 ∧ M 121 (30 + 6 * i + 3) = 0 then ish 1 (nI i) else 0) → b_X10_lostSet_30 120 Q (l_X10_lostSet_4 120 Q (m + 1)) (nI i) (lsZ (M 121) i) x M := by
        intro x ex
        unfold b_X10_lostSet_30
        intro y ey z ez
        rw [nI_1] at ez
        subst ez ey ex
        exact ih (i + 1) (by omega)
      exact sp_mIsLost (by omega) (fun q => ⟨fun z => absurd z (by decide), fun _ => fin _ (by rw [if_pos q])⟩) (fun q => ⟨fun _ => fin _ (by rw [if_neg q]), fun z => absurd rfl z⟩)
  unfold wp_X10_lostSet
  exact ⟨by decide, nk + 1, p nk 0 (by omega)⟩
def sumZ (r : Nat → Int32) : Nat → Int32
  | 0 => 0
  | c + 1 => sumZ r c + r (8 + c)
theorem sp_snowInAll {r : Nat → Int32} {M : Mem} {Q : Int32 → Mem → Prop} (hM : MR M 2 r) (hQ : Q (sumZ r 10) M) : wp_X1_snowInAll 2 M Q := by
  have p : ∀ (m i : Nat), i + m = 10 → l_X1_snowInAll_4 2 Q (m + 1) (sumZ r i) (nI i) M := by
    intro m
    induction m with
    | zero =>
      intro i hi
      have : i = 10 := by omega
      subst this
      show B_X1_snowInAll_4 2 Q _ _ _ _
      unfold B_X1_snowInAll_4
      exact br_t (by decide) hQ
    | succ m ih =>
      intro i hi
      show B_X1_snowInAll_4 2 Q _ _ _ _
      unfold B_X1_snowInAll_4
      refine br_f (fun z => nI_ge (a := i) (b := 10) (by omega) (by decide) z) ⟨vp_in_nI (by omega) (by decide), ?_⟩
      rw [nI_clamp (by omega), hM.2.1 i (by omega)]
      intro y ey z ez
      rw [nI_1] at ez
      subst ez ey
      exact ih (i + 1) (by omega)
  unfold wp_X1_snowInAll
  exact ⟨by decide, 11, p 10 0 (by omega)⟩
theorem sp_mSum {M : Mem} {Q : Int32 → Mem → Prop} (hQ : Q (sumZ (M 121) 10) M) : wp_X10_snowOfAll 120 M Q := by
  have p : ∀ (m i : Nat), i + m = 10 → l_X10_snowOfAll_4 120 Q (m + 1) (sumZ (M 121) i) (nI i) M := by
    intro m
    induction m with
    | zero =>
      intro i hi
      have : i = 10 := by omega
      subst this
      show B_X10_snowOfAll_4 120 Q _ _ _ _
      unfold B_X10_snowOfAll_4
      exact br_t (by decide) hQ
    | succ m ih =>
      intro i hi
      show B_X10_snowOfAll_4 120 Q _ _ _ _
      unfold B_X10_snowOfAll_4
      refine br_f (fun z => nI_ge (a := i) (b := 10) (by omega) (by decide) z) ?_
      rw [show (8 : Int32) = nI 8 from rfl, nI_add]
      refine ⟨vp_in_nI (by omega) (by decide), ?_⟩
      rw [nI_clamp (by omega)]
      intro y ey z ez
      rw [nI_1] at ez
      subst ez ey
      exact ih (i + 1) (by omega)
  unfold wp_X10_snowOfAll
  exact ⟨by decide, 11, p 10 0 (by omega)⟩
theorem call_count {n : Nat} {M : Mem} (h : INV n M) (a : Int32) : wp_X9_count 0 a M (fun r M1 => wp_X10_count 120 a M1 (fun r2 M2 => r = r2 ∧ INV (n + 1) M2)) := by
  obtain ⟨ns, nk, hr, hR, hh⟩ := h.ro
  have N : ∀ {x y : Int32} {A : Prop}, x = y → ¬ x = y → A := fun e ne => absurd e ne
  unfold wp_X9_count
  refine ⟨by decide, fun z => ?_, fun z => ?_, fun z => ?_, fun z => ?_, fun z => ?_, fun z => ?_, fun z => ?_, fun z => ?_, fun z => ?_, fun z => ?_, fun z0 z1 z2 z3 z4 z5 z6 z7 z8 z9 => ?_⟩
  · subst z; unfold wp_X10_count; simp; exact ⟨by decide, h.mr.1.2.2, h.pure⟩
  · subst z; unfold wp_X10_count; simp; exact ⟨by decide, h.mr.1.2.1, h.pure⟩
  · subst z; unfold wp_X10_count; simp; exact ⟨by decide, h.mr.1.1, h.pure⟩
  · subst z
    refine sp_snowInAll h.mr ?_
    unfold wp_X10_count; simp; exact ⟨by decide, sp_mSum ⟨rfl, h.pure⟩⟩
  · subst z
    refine sp_foundSet (o := 2) (by decide) h.mr hR ?_
    unfold wp_X10_count; simp; exact ⟨by decide, sp_mFound hR ⟨rfl, h.pure⟩⟩
  · subst z
    refine sp_lost h.mr hR ?_
    unfold wp_X10_count; simp; exact ⟨by decide, sp_mLost hR ⟨rfl, h.pure⟩⟩
  · subst z; unfold wp_X10_count; simp; exact ⟨by decide, h.1.1.2.2.1.1, h.pure⟩
  · subst z; unfold wp_X10_count; simp; exact ⟨by decide, h.1.1.2.2.2.1, h.pure⟩
  · subst z; unfold wp_X10_count; simp; exact ⟨by decide, h.1.2.2.2.2.2.2.1, h.pure⟩
  · subst z; unfold wp_X10_count; simp; exact ⟨by decide, h.1.1.1, h.pure⟩
  · refine sp_refuse (k := 1) (by decide) (by decide) ?_
    unfold wp_X10_count
    refine ⟨by decide, fun z => absurd z z0, fun z => absurd z z1, fun z => absurd z z2, fun z => absurd z z3, fun z => absurd z z4, fun z => absurd z z5, fun z => absurd z z6, fun z => absurd z z7, fun z => absurd z z8, fun z => absurd z z9, fun _ _ _ _ _ _ _ _ _ _ => ?_⟩
    exact fin_err (e := -1000000001) h (k := 1) (by decide) (by decide) rfl
