/-! ===== AN HOUR ===== -/
def ph1 (r : Nat → Int32) : Nat → Nat → Int32
  | 0 => r
  | c + 1 => upd (ph1 r c) (8 + c) (heldZ (ph1 r c (8 + c) + lawF (ph1 r c) (nI c) (ph1 r c (8 + c)) (irm (ph1 r c 0) 24)) 0 999)
noncomputable def ph2 (nk : Nat) (r : Nat → Int32) : Nat → Nat → Int32
  | 0 => r
  | s + 1 => (seekP nk (ph2 nk r s) s).1
noncomputable def fl2 (nk : Nat) (r : Nat → Int32) (s : Nat) : Int32 := (seekP nk (ph2 nk r s) s).2
noncomputable def flL (nk : Nat) (r : Nat → Int32) (l : List Int32) : Nat → List Int32
  | 0 => l
  | s + 1 => pushF (flL nk r l s) (fl2 nk r s)
def frz (r : Nat → Int32) (k : Nat) : Nat → Int32 :=
  if r (30 + 6 * k + 5) = 0 ∧ 0 < r (8 + tn (r (30 + 6 * k + 2))) then upd r (30 + 6 * k + 3) (heldZ (r (30 + 6 * k + 3) - coldF (r (30 + 6 * k + 0)) (r (30 + 6 * k + 1)) (r 0)) 0 99) else r
def ph3 (r : Nat → Int32) : Nat → Nat → Int32
  | 0 => r
  | k + 1 => frz (ph3 r k) k
def tick (r : Nat → Int32) : Nat → Int32 := upd r 0 (r 0 + 1)
noncomputable def hourZ (ns nk : Nat) (r : Nat → Int32) : Nat → Int32 := tick (ph3 (ph2 nk (ph1 r 10) ns) nk)
noncomputable def hourL (ns nk : Nat) (r : Nat → Int32) (l : List Int32) : List Int32 := flL nk (ph1 r 10) l ns
theorem ph1_RO {r : Nat → Int32} {ns nk hr : Nat} (h : RO r ns nk hr) : ∀ c, c ≤ 10 → RO (ph1 r c) ns nk hr
  | 0, _ => h
  | c + 1, hc => (ph1_RO h c (by omega)).snow (zb_held (n := 999) (by decide)) (by omega)
theorem ph2_RO {r : Nat → Int32} {ns nk hr : Nat} (h : RO r ns nk hr) : ∀ s, s ≤ ns → RO (ph2 nk r s) ns nk hr
  | 0, _ => h
  | s + 1, hs => seek_RO (ph2_RO h s (by omega)) (by omega)
theorem frz_RO {r : Nat → Int32} {ns nk hr k : Nat} (h : RO r ns nk hr) (hk : k < nk) : RO (frz r k) ns nk hr := by
  unfold frz
  split
  · exact h.sheep hk (by decide) (zb_held (n := 99) (by decide))
  · exact h
theorem ph3_RO {r : Nat → Int32} {ns nk hr : Nat} (h : RO r ns nk hr) : ∀ k, k ≤ nk → RO (ph3 r k) ns nk hr
  | 0, _ => h
  | k + 1, hk => frz_RO (ph3_RO h k (by omega)) (by omega)
theorem tick_RO {r : Nat → Int32} {ns nk hr : Nat} (h : RO r ns nk hr) (hh : hr + 1 < 20000) : RO (tick r) ns nk (hr + 1) := by
  unfold tick
  rw [h.2.2.1.1, nI_1]
  exact h.hour hh
theorem hour_RO {r : Nat → Int32} {ns nk hr : Nat} (h : RO r ns nk hr) (hh : hr + 1 < 20000) : RO (hourZ ns nk r) ns nk (hr + 1) := tick_RO (ph3_RO (ph2_RO (ph1_RO h 10 (by omega)) ns (by omega)) nk (by omega)) hh
theorem cold_le {kd m hr : Int32} {hn : Nat} (hh : hr = nI hn) (h1 : hn < 2 ^ 31) (h2 : zb m 9) : zb (coldF kd m hr) 3 := by
  unfold coldF
  split
  · split
    · exact ⟨1, by omega, rfl⟩
    · exact ⟨0, by omega, rfl⟩
  · split
    · obtain ⟨j, hj, rfl⟩ := h2
      rw [show (2 : Int32) = nI 2 from rfl, irm_n (by omega) (by decide) (by decide), show (1 : Int32) = nI 1 from rfl, nI_add]
      exact ⟨1 + j % 2, by omega, rfl⟩
    · split
      · exact ⟨3, by omega, rfl⟩
      · exact ⟨1, by omega, rfl⟩
theorem warm_held {a b : Nat} (ha : a ≤ 99) (hb : b ≤ 3) : imx 0 (nI a - nI b) = heldZ (nI a - nI b) 0 99 := by
  have e := pk_sub_toInt (a := a) (b := b) (by omega) (by omega)
  have z : (0 : Int32).toInt = 0 := by decide
  have z9 : (99 : Int32).toInt = 99 := by decide
  unfold imx heldZ
  by_cases h : (0 : Int32) < nI a - nI b
  · rw [if_pos h, if_neg (by rw [i_lt] at h ⊢; omega), if_neg (by rw [i_lt]; omega)]
  · rw [if_neg h]
    by_cases h2 : nI a - nI b < 0
    · rw [if_pos h2]
    · rw [if_neg h2, if_neg (by rw [i_lt]; omega), i_eq]
      rw [i_lt] at h h2; omega
/-- the class: the cold -/
theorem sp_freeze {o k ns nk hr : Nat} {r : Nat → Int32} {l : List Int32} {M : Mem} {Q : Mem → Prop} (kd : kdT o = 1) (hM : MR M o r) (hR : RO r ns nk hr) (hF : FL M o l) (hk : k < nk)
    (hQ : ∀ M', MR M' o (frz r k) → FL M' o l → only (mo o) M M' → Q M') : wp_X1_freeze o (o + 13 + 9 + k) M Q := by
  have n6 := hR.1.2
  have n7 := hR.2.1.2
  have kq : kdT (o + 13 + 9 + k) = 5 := ke13 (ks1_4 kd) (by rw [ln1_4 kd]; omega)
  have F : ∀ w, w < 6 → M (o + 13 + 9 + k) w = r (30 + 6 * k + w) := fun w hw => hM.2.2.2.1 k (by rw [hR.tn2]; omega) w hw
  unfold wp_X1_freeze
  refine ⟨kd, kq, ?_⟩
  unfold frz at hQ
  rw [F 5 (by decide), F 2 (by decide)]
  obtain ⟨c, hc, ec⟩ := hR.fld (w := 2) hk (by decide)
  have hc : c ≤ 9 := hc
  rw [ec, tn, nI_clamp (by omega)] at hQ
  by_cases h1 : r (30 + 6 * k + 5) = 0
  · refine ⟨fun z => absurd h1 z, fun _ => ?_⟩
    rw [ec]
    refine sp_snowAt kd (by omega) ?_
    rw [hM.2.1 c (by omega)]
    by_cases h2 : (0 : Int32) < r (8 + c)
    · rw [if_pos ⟨h1, h2⟩] at hQ
      refine br_f (nlt_le.mpr h2) ?_
      rw [show M o 8 = nI hr from hM.1.1.trans hR.2.2.1.1]
      refine sp_cold kq (by rw [F 0 (by decide)]; exact hR.fld (w := 0) hk (by decide)) (by have := hR.2.2.1.2; omega) ?_
      intro M1 e1
      obtain ⟨a, ha, ea⟩ := hR.fld (w := 3) hk (by decide)
      have ha : a ≤ 99 := ha
      obtain ⟨b, hb, eb⟩ := cold_le (kd := r (30 + 6 * k + 0)) (m := r (30 + 6 * k + 1)) (hr := r 0) hR.2.2.1.1 (by have := hR.2.2.1.2; omega) (hR.fld (w := 1) hk (by decide))
      rw [F 3 (by decide), F 0 (by decide), F 1 (by decide), ← hR.2.2.1.1, eb, ea, warm_held ha hb, ← ea, ← eb] at e1
      refine hQ M1 ?_ ?_ ?_
      · rw [e1]; exact hM.sheep (by decide) (by omega) (by rw [hR.tn3]; omega)
      · rw [e1]; exact hF.kept (mu_ne (by omega)) (mu_ne (by omega))
      · rw [e1]; exact only.mu ⟨by omega, by omega⟩
    · rw [if_neg (fun z => h2 z.2)] at hQ
      exact br_t (nle_lt.mp h2) (hQ M hM hF only.rf)
  · rw [if_neg (fun z => h1 z.1)] at hQ
    exact ⟨fun _ => hQ M hM hF only.rf, fun z => absurd z h1⟩
/-- the class: AN HOUR -/
theorem sp_hour {o ns nk hr : Nat} {r : Nat → Int32} {l : List Int32} {M : Mem} {Q : Mem → Prop} (kd : kdT o = 1) (hM : MR M o r) (hR : RO r ns nk hr) (hF : FL M o l)
    (hQ : ∀ M', MR M' o (hourZ ns nk r) → FL M' o (hourL ns nk r l) → only (mo o) M M' → Q M') : wp_X1_passOneHour o M Q := by
  have n6 := hR.1.2
  have n7 := hR.2.1.2
  have mono : ∀ {S : Nat → Prop} {X Y : Mem}, (∀ b, S b → mo o b) → only S X Y → only (mo o) X Y := fun h h2 => h2.mono h
  have hR1 := ph1_RO hR 10 (by omega)
  have hR2 := ph2_RO hR1 ns (by omega)
  -- the cold
  have p3 : ∀ (m i : Nat) (M1 : Mem), i + m = nk → MR M1 o (ph3 (ph2 nk (ph1 r 10) ns) i) → FL M1 o (hourL ns nk r l) → only (mo o) M M1 → l_X1_passOneHour_73 o Q (m + 1) (nI i) M1 := by
    intro m
    induction m with
    | zero =>
      intro i M1 hi hM1 hF1 ho
      have : i = nk := by omega
      subst this
      show B_X1_passOneHour_73 o Q _ _ _
      unfold B_X1_passOneHour_73
      have hRi := ph3_RO hR2 i (by omega)
      rw [show M1 o 7 = nI i from hM1.1.2.1.trans hRi.2.1.1]
      refine br_t (nI_le (Nat.le_refl _) (by omega)) ?_
      intro M2 e2
      rw [hM1.1.1] at e2
      refine hQ M2 ?_ ?_ ?_
      · rw [e2]; exact hM1.hour
      · rw [e2]; exact hF1.kept (mu_ne (by omega)) (mu_ne (by omega))
      · rw [e2]; exact ho.tr (only.mu ⟨by omega, by omega⟩)
    | succ m ih =>
      intro i M1 hi hM1 hF1 ho
      show B_X1_passOneHour_73 o Q _ _ _
      unfold B_X1_passOneHour_73
      have hRi := ph3_RO hR2 i (by omega)
      rw [show M1 o 7 = nI nk from hM1.1.2.1.trans hRi.2.1.1]
      refine br_f (nI_ge (by omega) (by omega)) ⟨vp_in_nI (by omega) (by decide), ?_⟩
      rw [nI_clamp (by omega)]
      refine sp_freeze kd hM1 hRi hF1 (by omega) (fun M2 hM2 hF2 ho2 => ?_)
      intro x ex
      rw [nI_1] at ex
      subst ex
      exact ih (i + 1) M2 (by omega) hM2 hF2 (ho.tr ho2)
  -- SEEKERS
  have p2 : ∀ (m i : Nat) (M1 : Mem), i + m = ns → MR M1 o (ph2 nk (ph1 r 10) i) → FL M1 o (flL nk (ph1 r 10) l i) → only (mo o) M M1 → l_X1_passOneHour_42 o Q (m + 1) (nI i) M1 := by
    intro m
    induction m with
    | zero =>
      intro i M1 hi hM1 hF1 ho
      have : i = ns := by omega
      subst this
      show B_X1_passOneHour_42 o Q _ _ _
      unfold B_X1_passOneHour_42
      rw [show M1 o 6 = nI i from hM1.1.2.2.trans hR2.1.1]
      exact br_t (nI_le (Nat.le_refl _) (by omega)) ⟨nk + 1, p3 nk 0 M1 (by omega) hM1 hF1 ho⟩
    | succ m ih =>
      intro i M1 hi hM1 hF1 ho
      show B_X1_passOneHour_42 o Q _ _ _
      unfold B_X1_passOneHour_42
      have hRi := ph2_RO hR1 i (by omega)
      rw [show M1 o 6 = nI ns from hM1.1.2.2.trans hRi.1.1]
      refine br_f (nI_ge (by omega) (by omega)) ⟨vp_in_nI (by omega) (by decide), ?_⟩
      rw [nI_clamp (by omega)]
      refine sp_out kd hM1 hRi (by omega) (fun M2 ho2 => ?_)
      have ho2' : only (mo o) M1 M2 := mono (fun b z => by unfold scrL at z; unfold mo; omega) ho2
      have hM2 : MR M2 o (ph2 nk (ph1 r 10) i) := hM1.kept (by rw [hRi.tn3]; omega) (by rw [hRi.tn2]; omega) (fun b _ _ h3 => ho2 b (fun z => h3 (by unfold scrL at z; unfold scO; omega)))
      have hF2 : FL M2 o (flL nk (ph1 r 10) l i) := hF1.kept (ho2 _ (by unfold scrL; omega)) (ho2 _ (by unfold scrL; omega))
      refine sp_seek kd hM2 hRi hF2 (by omega) (fun M3 hM3 hF3 ho3 => ?_)
      intro x ex
      rw [nI_1] at ex
      subst ex
      exact ih (i + 1) M3 (by omega) hM3 hF3 ((ho.tr ho2').tr ho3)
  -- the snow
  have p1 : ∀ (m i : Nat) (M1 : Mem), i + m = 10 → MR M1 o (ph1 r i) → FL M1 o l → only (mo o) M M1 → l_X1_passOneHour_2 o Q (m + 1) (nI i) M1 := by
    intro m
    induction m with
    | zero =>
      intro i M1 hi hM1 hF1 ho
      have : i = 10 := by omega
      subst this
      show B_X1_passOneHour_2 o Q _ _ _
      unfold B_X1_passOneHour_2
      exact br_t (by decide) ⟨ns + 1, p2 ns 0 M1 (by omega) hM1 hF1 ho⟩
    | succ m ih =>
      intro i M1 hi hM1 hF1 ho
      show B_X1_passOneHour_2 o Q _ _ _
      unfold B_X1_passOneHour_2
      have hRi := ph1_RO hR i (by omega)
      refine br_f (fun z => nI_ge (a := i) (b := 10) (by omega) (by decide) z) ⟨vp_in_nI (by omega) (by decide), ?_⟩
      rw [nI_clamp (by omega), hM1.2.1 i (by omega), hM1.1.1]
      refine sp_gives (mst := 99) (sz := ph1 r i 6) (g := fun j => ph1 r i (142 + j)) (ks1_0 kd) hM1.2.2.2.2.1 hRi.2.2.2.2.2.2.1 (by decide) (fun M2 ho2 => ?_)
      have ho2' : only (mo o) M1 M2 := mono (fun b z => by unfold scrL at z; unfold mo; omega) ho2
      have hM2 : MR M2 o (ph1 r i) := hM1.kept (by rw [hRi.tn3]; omega) (by rw [hRi.tn2]; omega) (fun b _ _ h3 => ho2 b (fun z => h3 (by unfold scrL at z; unfold scO; omega)))
      have hF2 : FL M2 o l := hF1.kept (ho2 _ (by unfold scrL; omega)) (ho2 _ (by unfold scrL; omega))
      refine sp_drop kd (by omega) ?_
      intro x ex
      rw [nI_1] at ex
      subst ex
      rw [hM2.2.1 i (by omega)]
      exact ih (i + 1) _ (by omega) (hM2.snow (by omega)) (hF2.kept (mu_ne (by omega)) (mu_ne (by omega))) ((ho.tr ho2').tr (only.mu ⟨by omega, by omega⟩))
  unfold wp_X1_passOneHour
  exact ⟨kd, 11, p1 10 0 M (by omega) hM hF only.rf⟩
/-- the reference: AN HOUR -/
theorem sp_mHour {ns nk hr : Nat} {M : Mem} {Q : Mem → Prop} (hR : RO (M 121) ns nk hr)
    (hQ : ∀ M', M' 121 = hourZ ns nk (M 121) → (∀ s, s < ns → M' 128 s = fl2 nk (ph1 (M 121) 10) s) → only scrH M M' → Q M') : wp_X10_oneHour 120 M Q := by
  have n6 := hR.1.2
  have n7 := hR.2.1.2
  obtain ⟨r, er⟩ : ∃ r, r = M 121 := ⟨_, rfl⟩
  rw [← er] at hR hQ
  have hR1 := ph1_RO hR 10 (by omega)
  have hR2 := ph2_RO hR1 ns (by omega)
  have p3 : ∀ (m i : Nat) (M1 : Mem), i + m = nk → M1 121 = ph3 (ph2 nk (ph1 r 10) ns) i → (∀ s, s < ns → M1 128 s = fl2 nk (ph1 r 10) s) → only scrH M M1 → l_X10_oneHour_89 120 Q (m + 1) (nI i) M1 := by
    intro m
    induction m with
    | zero =>
      intro i M1 hi e1 f1 ho
      have : i = nk := by omega
      subst this
      show B_X10_oneHour_89 120 Q _ _ _
      unfold B_X10_oneHour_89
      have hRi := ph3_RO hR2 i (by omega)
      rw [show M1 (120 + 1) = ph3 (ph2 i (ph1 r 10) ns) i from e1, hRi.2.1.1]
      refine br_t (nI_le (Nat.le_refl _) (by omega)) ?_
      intro M2 e2
      refine hQ M2 ?_ ?_ ?_
      · rw [e2, show (120 + 1 : Nat) = 121 from rfl, mu_same, e1]; rfl
      · intro s hs
        rw [e2, mu_ne (by decide)]; exact f1 s hs
      · rw [e2]; exact ho.tr (only.mu (by unfold scrH; omega))
    | succ m ih =>
      intro i M1 hi e1 f1 ho
      show B_X10_oneHour_89 120 Q _ _ _
      unfold B_X10_oneHour_89
      have hRi := ph3_RO hR2 i (by omega)
      obtain ⟨ri, eri⟩ : ∃ z, z = ph3 (ph2 nk (ph1 r 10) ns) i := ⟨_, rfl⟩
      rw [← eri] at hRi e1
      have enx : ph3 (ph2 nk (ph1 r 10) ns) (i + 1) = frz ri i := by rw [eri]; rfl
      rw [show M1 (120 + 1) 2 = nI nk from by rw [show M1 (120 + 1) = ri from e1]; exact hRi.2.1.1]
      refine br_f (nI_ge (by omega) (by omega)) ?_
      have next : ∀ M2, M2 121 = frz ri i → M2 128 = M1 128 → only scrH M M2 → b_X10_oneHour_149 120 Q (l_X10_oneHour_89 120 Q (m + 1)) (nI i) M2 := by
        intro M2 e2 f2 ho2
        unfold b_X10_oneHour_149
        intro x ex
        rw [nI_1] at ex
        subst ex
        exact ih (i + 1) M2 (by omega) (by rw [e2, enx]) (fun s hs => by rw [f2]; exact f1 s hs) ho2
      refine sp_its (w := 5) (by omega) (by decide) ?_
      rw [e1]
      obtain ⟨c, hc, ec⟩ := hRi.fld (k := i) (w := 2) (by omega) (by decide)
      have hc : c ≤ 9 := hc
      unfold frz at next
      rw [ec, tn, nI_clamp (by omega)] at next
      by_cases h1 : ri (30 + 6 * i + 5) = 0
      · refine ⟨fun z => absurd h1 z, fun _ => ?_⟩
        refine sp_its (w := 2) (by omega) (by decide) ?_
        rw [show M1 (120 + 1) = ri from e1, ec, show (8 : Int32) = nI 8 from rfl, nI_add]
        refine ⟨vp_in_nI (by omega) (by decide), ?_⟩
        rw [nI_clamp (by omega)]
        by_cases h2 : (0 : Int32) < ri (8 + c)
        · rw [if_pos ⟨h1, h2⟩] at next
          refine br_f (nlt_le.mpr h2) ?_
          refine sp_its (w := 3) (by omega) (by decide) ?_
          refine sp_mCold (by omega) (by rw [e1]; exact hRi.fld (w := 0) (by omega) (by decide)) ?_
          rw [e_held]
          refine sp_gets (w := 3) (by omega) (by decide) ?_
          rw [e1]
          refine next _ ?_ (mu_ne (by decide)) (ho.tr (only.mu (by unfold scrH; omega)))
          rw [mu_same, e1]
        · rw [if_neg (fun z => h2 z.2)] at next
          exact br_t (nle_lt.mp h2) (next M1 e1 rfl ho)
      · rw [if_neg (fun z => h1 z.1)] at next
        exact ⟨fun _ => next M1 e1 rfl ho, fun z => absurd z h1⟩
  have p2 : ∀ (m i : Nat) (M1 : Mem), i + m = ns → M1 121 = ph2 nk (ph1 r 10) i → (∀ s, s < i → M1 128 s = fl2 nk (ph1 r 10) s) → only scrH M M1 → l_X10_oneHour_66 120 Q (m + 1) (nI i) M1 := by
    intro m
    induction m with
    | zero =>
      intro i M1 hi e1 f1 ho
      have : i = ns := by omega
      subst this
      show B_X10_oneHour_66 120 Q _ _ _
      unfold B_X10_oneHour_66
      rw [show M1 (120 + 1) 3 = nI i from by rw [show M1 (120 + 1) = ph2 nk (ph1 r 10) i from e1]; exact hR2.1.1]
      exact br_t (nI_le (Nat.le_refl _) (by omega)) ⟨nk + 1, p3 nk 0 M1 (by omega) e1 f1 ho⟩
    | succ m ih =>
      intro i M1 hi e1 f1 ho
      show B_X10_oneHour_66 120 Q _ _ _
      unfold B_X10_oneHour_66
      have hRi := ph2_RO hR1 i (by omega)
      rw [show M1 (120 + 1) 3 = nI ns from by rw [show M1 (120 + 1) = ph2 nk (ph1 r 10) i from e1]; exact hRi.1.1]
      refine br_f (nI_ge (by omega) (by omega)) ?_
      refine sp_mSeek (by rw [e1]; exact hRi) (by omega) (fun M2 e2 f2 g2 ho2 => ?_)
      rw [e1] at e2 f2
      intro x ex
      rw [nI_1] at ex
      subst ex
      refine ih (i + 1) M2 (by omega) e2 (fun s hs => ?_) (ho.tr ho2)
      by_cases q : s = i
      · subst q; exact f2
      · rw [g2 s q]; exact f1 s (by omega)
  have p1 : ∀ (m i : Nat) (M1 : Mem), i + m = 10 → M1 121 = ph1 r i → only scrH M M1 → l_X10_oneHour_2 120 Q (m + 1) (nI i) M1 := by
    intro m
    induction m with
    | zero =>
      intro i M1 hi e1 ho
      have : i = 10 := by omega
      subst this
      show B_X10_oneHour_2 120 Q _ _ _
      unfold B_X10_oneHour_2
      exact br_t (by decide) ⟨ns + 1, p2 ns 0 M1 (by omega) e1 (fun s hs => by omega) ho⟩
    | succ m ih =>
      intro i M1 hi e1 ho
      show B_X10_oneHour_2 120 Q _ _ _
      unfold B_X10_oneHour_2
      have hRi := ph1_RO hR i (by omega)
      refine br_f (fun z => nI_ge (a := i) (b := 10) (by omega) (by decide) z) ?_
      rw [show (8 : Int32) + nI i = nI (8 + i) from by rw [show (8 : Int32) = nI 8 from rfl, nI_add]]
      refine ⟨vp_in_nI (by omega) (by decide), vp_in_nI (by omega) (by decide), ?_⟩
      rw [nI_clamp (by omega), show M1 (120 + 1) = ph1 r i from e1]
      refine sp_mLaw (u := 0) (mst := 99) (g := fun j => ph1 r i (142 + j)) (by decide) rfl (fun j _ => by rw [e1]) (by rw [e1]; exact hRi.2.2.2.2.2.2.1) (fun M2 ho2 => ?_)
      rw [e_held]
      refine ⟨vp_in_nI (by omega) (by decide), ?_⟩
      intro M3 e3 x ex
      rw [nI_1] at ex
      subst ex
      have e2 : M2 121 = ph1 r i := (ho2 121 (by unfold scrM; omega)).trans e1
      refine ih (i + 1) M3 (by omega) ?_ ?_
      · rw [e3, show (120 + 1 : Nat) = 121 from rfl, mu_same, e2, e1]; rfl
      · rw [e3]; exact (ho.tr (ho2.mono (fun b z => by unfold scrM at z; unfold scrH; omega))).tr (only.mu (by unfold scrH; omega))
  unfold wp_X10_oneHour
  exact ⟨by decide, 11, p1 10 0 M (by omega) er.symm only.rf⟩
