/-! ===== HOURS ahead, copies, sets ===== -/
noncomputable def passZ (ns nk : Nat) (r : Nat → Int32) : Nat → Nat → Int32
  | 0 => r
  | n + 1 => hourZ ns nk (passZ ns nk r n)
noncomputable def passL (ns nk : Nat) (r : Nat → Int32) (l : List Int32) : Nat → List Int32
  | 0 => l
  | n + 1 => hourL ns nk (passZ ns nk r n) (passL ns nk r l n)
theorem pass_RO {r : Nat → Int32} {ns nk hr : Nat} (h : RO r ns nk hr) : ∀ n, hr + n < 20000 → RO (passZ ns nk r n) ns nk (hr + n)
  | 0, _ => h
  | n + 1, hn => hour_RO (pass_RO h n (by omega)) (by omega)
theorem FL.nil {M : Mem} {o : Nat} : FL (mu M (o + 14) 1 0) o [] := ⟨by rw [mu_hit]; rfl, by simp, fun j hj => by simp at hj⟩
theorem MR.clear {M : Mem} {o : Nat} {r : Nat → Int32} {v : Int32} (h : MR M o r) (h3 : tn (r 3) ≤ 6) (h2 : tn (r 2) ≤ 7) : MR (mu M (o + 14) 1 v) o r := h.kept h3 h2 (fun b _ _ h3 => mu_ne (fun z => h3 (by unfold scO; omega)))
theorem sp_passHours {o ns nk hr n : Nat} {r : Nat → Int32} {M : Mem} {Q : Mem → Prop} (kd : kdT o = 1) (hM : MR M o r) (hR : RO r ns nk hr) (hn : hr + n < 20000)
    (hQ : ∀ M', MR M' o (passZ ns nk r n) → FL M' o (passL ns nk r [] n) → only (mo o) M M' → Q M') : wp_X1_passHours o (nI n) M Q := by
  have n6 := hR.1.2
  have n7 := hR.2.1.2
  unfold wp_X1_passHours
  refine ⟨kd, sp_clear (ks1_5 kd) ?_⟩
  have p : ∀ (m i : Nat) (M1 : Mem), i + m = n → MR M1 o (passZ ns nk r i) → FL M1 o (passL ns nk r [] i) → only (mo o) M M1 → l_X1_passHours_9 o Q (nI n) (m + 1) (nI i) M1 := by
    intro m
    induction m with
    | zero =>
      intro i M1 hi hM1 hF1 ho
      have : i = n := by omega
      subst this
      show B_X1_passHours_9 o Q _ _ _ _
      unfold B_X1_passHours_9
      exact br_t (nI_le (Nat.le_refl _) (by omega)) (hQ M1 hM1 hF1 ho)
    | succ m ih =>
      intro i M1 hi hM1 hF1 ho
      show B_X1_passHours_9 o Q _ _ _ _
      unfold B_X1_passHours_9
      refine br_f (nI_ge (by omega) (by omega)) ?_
      refine sp_hour kd hM1 (pass_RO hR i (by omega)) hF1 (fun M2 hM2 hF2 ho2 => ?_)
      intro x ex
      rw [nI_1] at ex
      subst ex
      exact ih (i + 1) M2 (by omega) hM2 hF2 (ho.tr ho2)
  exact ⟨n + 1, p n 0 _ (by omega) (hM.clear (by rw [hR.tn3]; omega) (by rw [hR.tn2]; omega)) FL.nil (only.mu ⟨by omega, by omega⟩)⟩
def soughtZ (r : Nat → Int32) (k : Nat) : Prop := r (30 + 6 * k + 5) = 0 ∧ ¬ r (30 + 6 * k + 3) = 0
theorem sp_isSought {o k ns nk hr : Nat} {r : Nat → Int32} {M : Mem} {Q : Int32 → Mem → Prop} (kd : kdT o = 1) (hM : MR M o r) (hR : RO r ns nk hr) (hk : k < nk) (h1 : soughtZ r k → Q 1 M) (h2 : ¬ soughtZ r k → Q 0 M) : wp_X5_isSought (o + 13 + 9 + k) M Q := by
  have n7 := hR.2.1.2
  have kq : kdT (o + 13 + 9 + k) = 5 := ke13 (ks1_4 kd) (by rw [ln1_4 kd]; omega)
  have F : ∀ w, w < 6 → M (o + 13 + 9 + k) w = r (30 + 6 * k + w) := fun w hw => hM.2.2.2.1 k (by rw [hR.tn2]; omega) w hw
  unfold wp_X5_isSought
  refine ⟨kq, ?_⟩
  rw [F 5 (by decide), F 3 (by decide)]
  obtain ⟨j, hj, ej⟩ := hR.fld (w := 3) hk (by decide)
  have hj : j ≤ 99 := hj
  by_cases a : r (30 + 6 * k + 5) = 0
  · refine ⟨fun z => absurd a z, fun _ => ?_⟩
    by_cases b : r (30 + 6 * k + 3) = 0
    · exact br_t (by rw [b]; decide) (h2 (fun z => z.2 b))
    · refine br_f (fun z => b ?_) (h1 ⟨a, b⟩)
      rw [ej] at z ⊢
      rw [i_le, nI_toInt (by omega)] at z
      have z0 : (0 : Int32).toInt = 0 := by decide
      have : j = 0 := by omega
      rw [this]; rfl
  · exact ⟨fun _ => h2 (fun z => a z.1), fun z => absurd z a⟩
theorem sp_passFor {o ns nk hr n k : Nat} {r : Nat → Int32} {M : Mem} {Q : Int32 → Mem → Prop} (kd : kdT o = 1) (hM : MR M o r) (hR : RO r ns nk hr) (hn : hr + n < 20000) (hk : k < nk)
    (hQ : ∀ p M', p ≤ n → (∀ i, i < p → soughtZ (passZ ns nk r i) k) → (p = n ∨ ¬ soughtZ (passZ ns nk r p) k) → MR M' o (passZ ns nk r p) → only (mo o) M M' → Q (nI p) M') : wp_X1_passHoursFor o (nI k) (nI n) M Q := by
  have n6 := hR.1.2
  have n7 := hR.2.1.2
  unfold wp_X1_passHoursFor
  refine ⟨kd, sp_clear (ks1_5 kd) ?_⟩
  have p : ∀ (m i : Nat) (M1 : Mem) (l : List Int32), i + m = n → MR M1 o (passZ ns nk r i) → FL M1 o l → only (mo o) M M1 → (∀ j, j < i → soughtZ (passZ ns nk r j) k) → l_X1_passHoursFor_9 o Q (nI k) (nI n) (m + 1) (nI i) M1 := by
    intro m
    induction m with
    | zero =>
      intro i M1 l hi hM1 hF1 ho hs
      have : i = n := by omega
      subst this
      show B_X1_passHoursFor_9 o Q _ _ _ _ _
      unfold B_X1_passHoursFor_9
      exact br_t (nI_le (Nat.le_refl _) (by omega)) (hQ i M1 (Nat.le_refl _) hs (Or.inl rfl) hM1 ho)
    | succ m ih =>
      intro i M1 l hi hM1 hF1 ho hs
      show B_X1_passHoursFor_9 o Q _ _ _ _ _
      unfold B_X1_passHoursFor_9
      have hRi := pass_RO hR i (by omega)
      refine br_f (nI_ge (by omega) (by omega)) (br_f (nI_pos (by omega)) ?_)
      rw [show M1 o 7 = nI nk from hM1.1.2.1.trans hRi.2.1.1]
      refine br_f (nI_ge (by omega) (by omega)) ⟨vp_in_nI (by omega) (by decide), ?_⟩
      rw [nI_clamp (by omega)]
      refine sp_isSought kd hM1 hRi hk (fun sg => ?_) (fun sg => ?_)
      · refine ⟨fun z => absurd z (by decide), fun _ => ?_⟩
        refine sp_hour kd hM1 hRi hF1 (fun M2 hM2 hF2 ho2 => ?_)
        intro x ex
        rw [nI_1] at ex
        subst ex
        refine ih (i + 1) M2 _ (by omega) hM2 hF2 (ho.tr ho2) (fun j hj => ?_)
        by_cases q : j = i
        · subst q; exact sg
        · exact hs j (by omega)
      · exact ⟨fun _ => hQ i M1 (by omega) hs (Or.inr sg) hM1 ho, fun z => absurd rfl z⟩
  exact ⟨n + 1, p n 0 _ [] (by omega) (hM.clear (by rw [hR.tn3]; omega) (by rw [hR.tn2]; omega)) FL.nil (only.mu ⟨by omega, by omega⟩) (fun j hj => by omega)⟩
theorem sp_passes {ns nk hr n : Nat} {M : Mem} {Q : Mem → Prop} (hR : RO (M 121) ns nk hr) (hn : hr + n < 20000)
    (hQ : ∀ M', M' 121 = passZ ns nk (M 121) n → only scrH M M' → Q M') : wp_X10_passes 120 (nI n) M Q := by
  obtain ⟨r, er⟩ : ∃ r, r = M 121 := ⟨_, rfl⟩
  rw [← er] at hR hQ
  have p : ∀ (m i : Nat) (M1 : Mem), i + m = n → M1 121 = passZ ns nk r i → only scrH M M1 → l_X10_passes_2 120 Q (nI n) (m + 1) (nI i) M1 := by
    intro m
    induction m with
    | zero =>
      intro i M1 hi e1 ho
      have : i = n := by omega
      subst this
      show B_X10_passes_2 120 Q _ _ _ _
      unfold B_X10_passes_2
      exact br_t (nI_le (Nat.le_refl _) (by omega)) (hQ M1 e1 ho)
    | succ m ih =>
      intro i M1 hi e1 ho
      show B_X10_passes_2 120 Q _ _ _ _
      unfold B_X10_passes_2
      refine br_f (nI_ge (by omega) (by omega)) ?_
      refine sp_mHour (by rw [e1]; exact pass_RO hR i (by omega)) (fun M2 e2 _ ho2 => ?_)
      intro x ex
      rw [nI_1] at ex
      subst ex
      exact ih (i + 1) M2 (by omega) (by rw [e2, e1]; rfl) (ho.tr ho2)
  unfold wp_X10_passes
  exact ⟨by decide, n + 1, p n 0 M (by omega) er.symm only.rf⟩
/-- what lies beyond the row stays -/
theorem upd_out {r : Nat → Int32} {k i : Nat} {v : Int32} (hk : k < 242) (hi : 242 ≤ i) : upd r k v i = r i := upd_off (by omega)
theorem ph1_out {r : Nat → Int32} {i : Nat} (hi : 242 ≤ i) : ∀ c, c ≤ 10 → ph1 r c i = r i
  | 0, _ => rfl
  | c + 1, hc => (upd_out (by omega) hi).trans (ph1_out hi c (by omega))
theorem seek_out {r : Nat → Int32} {ns nk hr s i : Nat} (hR : RO r ns nk hr) (hs : s < ns) (hi : 242 ≤ i) : (seekP nk r s).1 i = r i := by
  have n6 := hR.1.2
  have n7 := hR.2.1.2
  unfold seekP
  rcases out_is r s nk with q | ⟨k, q1, q2, q3⟩
  · rw [q, if_pos (by decide)]
  · rw [q2, if_neg (nI_pos (by omega)), tn, nI_clamp (by omega)]
    obtain ⟨c, hc, ec⟩ := hR.fld (w := 2) q1 (by decide)
    have hc : c ≤ 9 := hc
    rw [ec, tn, nI_clamp (by omega)]
    unfold seekA
    split
    · split
      · exact (upd_out (by omega) hi).trans (upd_out (by omega) hi)
      · exact upd_out (by omega) hi
    · exact upd_out (by omega) hi
theorem ph2_out {r : Nat → Int32} {ns nk hr i : Nat} (hR : RO r ns nk hr) (hi : 242 ≤ i) : ∀ s, s ≤ ns → ph2 nk r s i = r i
  | 0, _ => rfl
  | s + 1, hs => (seek_out (ph2_RO hR s (by omega)) (by omega) hi).trans (ph2_out hR hi s (by omega))
theorem ph3_out {r : Nat → Int32} {i : Nat} (hi : 242 ≤ i) : ∀ k, k ≤ 7 → ph3 r k i = r i
  | 0, _ => rfl
  | k + 1, hk => by
    show frz (ph3 r k) k i = r i
    unfold frz
    split
    · exact (upd_out (by omega) hi).trans (ph3_out hi k (by omega))
    · exact ph3_out hi k (by omega)
theorem hour_out {r : Nat → Int32} {ns nk hr i : Nat} (hR : RO r ns nk hr) (hi : 242 ≤ i) : hourZ ns nk r i = r i := by
  have n7 := hR.2.1.2
  unfold hourZ tick
  rw [upd_out (by omega) hi, ph3_out hi nk n7, ph2_out (ph1_RO hR 10 (by omega)) hi ns (by omega), ph1_out hi 10 (by omega)]
theorem pass_out {r : Nat → Int32} {ns nk hr i : Nat} (hR : RO r ns nk hr) (hi : 242 ≤ i) : ∀ n, hr + n < 20000 → passZ ns nk r n i = r i
  | 0, _ => rfl
  | n + 1, hn => (hour_out (pass_RO hR n (by omega)) hi).trans (pass_out hR hi n (by omega))
/-- the reference's copies -/
theorem sp_moveAll {a d : Nat} {M : Mem} {Q : Mem → Prop} (ha : a = 121 ∨ a = 122 ∨ a = 123) (hd : d = 121 ∨ d = 122 ∨ d = 123) (hne : a ≠ d) (hQ : Q (mcp M a 0 d 0 242)) : wp_X10_moveAll 120 a d M Q := by
  have la : lnT a = 242 ∧ kdT a = 11 := by rcases ha with rfl | rfl | rfl <;> decide
  have ld : lnT d = 242 ∧ kdT d = 11 := by rcases hd with rfl | rfl | rfl <;> decide
  have p : ∀ (m i : Nat) (M1 : Mem), i + m = 242 → M1 = mcp M a 0 d 0 i → l_X10_moveAll_2 120 Q a d (m + 1) (nI i) M1 := by
    intro m
    induction m with
    | zero =>
      intro i M1 hi e1
      have : i = 242 := by omega
      subst this
      show B_X10_moveAll_2 120 Q _ _ _ _ _
      unfold B_X10_moveAll_2
      exact br_t (by decide) (by rw [e1]; exact hQ)
    | succ m ih =>
      intro i M1 hi e1
      show B_X10_moveAll_2 120 Q _ _ _ _ _
      unfold B_X10_moveAll_2
      refine br_f (fun z => nI_ge (a := i) (b := 242) (by omega) (by decide) z) ?_
      rw [la.1, ld.1]
      refine ⟨vp_in_nI (by omega) (by decide), vp_in_nI (by omega) (by decide), ?_⟩
      rw [nI_clamp (by omega)]
      intro M4 e4 x ex
      rw [nI_1] at ex
      subst ex
      refine ih (i + 1) M4 (by omega) ?_
      rw [e4, e1]
      funext b j
      simp only [mu, mcp]
      by_cases h1 : b = d
      · subst h1
        by_cases h2 : j = i
        · subst h2
          simp [hne]
        · by_cases h3 : j < i
          · simp [h2, h3, show j < i + 1 by omega]
          · simp [h2, h3, show ¬ j < i + 1 by omega]
      · simp [h1]
  unfold wp_X10_moveAll
  refine ⟨by decide, la.2, ld.2, 243, p 242 0 M (by omega) ?_⟩
  funext b j
  simp [mcp]
/-- what is only thought of: the row is put back -/
theorem back_row {r r2 : Nat → Int32} {M : Mem} (h1 : ∀ i, 242 ≤ i → r2 i = r i) (e3 : ∀ i, i < 242 → M 123 i = r i) (e1 : M 121 = r2) : mcp M 123 0 121 0 242 121 = r := by
  funext i
  rw [mcp_same]
  unfold va_cpy
  by_cases h : i < 242
  · rw [if_pos ⟨by omega, by omega⟩, show 0 + (i - 0) = i from by omega]; exact e3 i h
  · rw [if_neg (by omega), e1]; exact h1 i (by omega)
/-- sets -/
def fsZ (r : Nat → Int32) : Nat → Int32
  | 0 => 0
  | k + 1 => fsZ r k ||| ish (r (30 + 6 * k + 5)) (nI k)
def fsN (r : Nat → Int32) : Nat → Nat
  | 0 => 0
  | k + 1 => fsN r k + tn (r (30 + 6 * k + 5)) * 2 ^ k
theorem or_all : ∀ n, n < 7 → ∀ b, b < 2 → ∀ a, a < 2 ^ n → nI a ||| ish (nI b) (nI n) = nI (a + b * 2 ^ n) := by decide +kernel
theorem fs_lt {r : Nat → Int32} {ns nk hr : Nat} (hR : RO r ns nk hr) : ∀ k, k ≤ nk → fsZ r k = nI (fsN r k) ∧ fsN r k < 2 ^ k
  | 0, _ => ⟨rfl, Nat.one_pos⟩
  | k + 1, hk => by
    have n7 := hR.2.1.2
    obtain ⟨i1, i2⟩ := fs_lt hR k (by omega)
    obtain ⟨j, hj, ej⟩ := hR.fld (k := k) (w := 5) (by omega) (by decide)
    have hj : j ≤ 1 := hj
    unfold fsZ fsN
    rw [i1, ej, tn, nI_clamp (by omega), or_all k (by omega) j (by omega) _ i2]
    refine ⟨rfl, ?_⟩
    rw [Nat.pow_succ]
    have : j * 2 ^ k ≤ 1 * 2 ^ k := Nat.mul_le_mul_right _ hj
    omega
theorem bit_all : ∀ n, n < 7 → ∀ b, b < 2 → ∀ a, a < 2 ^ n → (∀ k, k < n → (a + b * 2 ^ n) / 2 ^ k % 2 = a / 2 ^ k % 2) ∧ (a + b * 2 ^ n) / 2 ^ n % 2 = b := by decide +kernel
theorem fs_bit {r : Nat → Int32} {ns nk hr : Nat} (hR : RO r ns nk hr) : ∀ n, n ≤ nk → ∀ k, k < n → fsN r n / 2 ^ k % 2 = tn (r (30 + 6 * k + 5))
  | 0, _, k, hk => by omega
  | n + 1, hn, k, hk => by
    have n7 := hR.2.1.2
    obtain ⟨i1, i2⟩ := fs_lt hR n (by omega)
    obtain ⟨j, hj, ej⟩ := hR.fld (k := n) (w := 5) (by omega) (by decide)
    have hj : j ≤ 1 := hj
    have et : tn (r (30 + 6 * n + 5)) = j := by rw [ej, tn, nI_clamp (by omega)]
    obtain ⟨b1, b2⟩ := bit_all n (by omega) j (by omega) _ i2
    unfold fsN
    rw [et]
    by_cases q : k = n
    · subst q; rw [b2, et]
    · rw [b1 k (by omega)]; exact fs_bit hR n (by omega) k (by omega)
theorem bit32_all : ∀ a, a < 128 → ∀ k, k < 7 → (isr (nI a) (nI k)) &&& 1 = nI (a / 2 ^ k % 2) := by decide +kernel
theorem fs_is {r : Nat → Int32} {ns nk hr k : Nat} (hR : RO r ns nk hr) (hk : k < nk) : (isr (fsZ r nk) (nI k)) &&& 1 = r (30 + 6 * k + 5) := by
  have n7 := hR.2.1.2
  obtain ⟨i1, i2⟩ := fs_lt hR nk (by omega)
  have : 2 ^ nk ≤ 2 ^ 7 := Nat.pow_le_pow_right (by decide) n7
  obtain ⟨j, hj, ej⟩ := hR.fld (k := k) (w := 5) hk (by decide)
  have hj : j ≤ 1 := hj
  rw [i1, bit32_all _ (by omega) k (by omega), fs_bit hR nk (by omega) k hk, ej, tn, nI_clamp (by omega)]
theorem sp_foundSet {o ns nk hr : Nat} {r : Nat → Int32} {M : Mem} {Q : Int32 → Mem → Prop} (kd : kdT o = 1) (hM : MR M o r) (hR : RO r ns nk hr) (hQ : Q (fsZ r nk) M) : wp_X1_foundSet o M Q := by
  have n7 := hR.2.1.2
  have p : ∀ (m i : Nat), i + m = nk → l_X1_foundSet_4 o Q (m + 1) (fsZ r i) (nI i) M := by
    intro m
    induction m with
    | zero =>
      intro i hi
      have : i = nk := by omega
      subst this
      show B_X1_foundSet_4 o Q _ _ _ _
      unfold B_X1_foundSet_4
      rw [show M o 7 = nI i from hM.1.2.1.trans hR.2.1.1]
      exact br_t (nI_le (Nat.le_refl _) (by omega)) hQ
    | succ m ih =>
      intro i hi
      show B_X1_foundSet_4 o Q _ _ _ _
      unfold B_X1_foundSet_4
      rw [show M o 7 = nI nk from hM.1.2.1.trans hR.2.1.1]
      refine br_f (nI_ge (by omega) (by omega)) ⟨vp_in_nI (by omega) (by decide), ?_⟩
      rw [nI_clamp (by omega), hM.2.2.2.1 i (by rw [hR.tn2]; omega) 5 (by decide)]
      obtain ⟨j, hj, ej⟩ := hR.fld (k := i) (w := 5) (by omega) (by decide)
      have hj : j ≤ 1 := hj
      have fin : ∀ x : Int32, x = ish (r (30 + 6 * i + 5)) (nI i) → b_X1_foundSet_32 o Q (l_X1_foundSet_4 o Q (m + 1)) (nI i) (fsZ r i) x M := by
        intro x ex
        unfold b_X1_foundSet_32
        intro y ey z ez
        rw [nI_1] at ez
        subst ez ey ex
        exact ih (i + 1) (by omega)
      have : j = 0 ∨ j = 1 := by omega
      rcases this with rfl | rfl
      · refine ⟨fun _ => fin 0 ?_, fun z => absurd ej z⟩
        rw [ej]
        exact (show ∀ i, i < 7 → (0 : Int32) = ish (nI 0) (nI i) by decide) i (by omega)
      · refine ⟨fun z => absurd (ej.symm.trans z) (by decide), fun _ => fin _ (by rw [ej]; rfl)⟩
  unfold wp_X1_foundSet
  exact ⟨kd, nk + 1, p nk 0 (by omega)⟩
theorem sp_mFound {ns nk hr : Nat} {M : Mem} {Q : Int32 → Mem → Prop} (hR : RO (M 121) ns nk hr) (hQ : Q (fsZ (M 121) nk) M) : wp_X10_foundSet 120 M Q := by
  have n7 := hR.2.1.2
  have p : ∀ (m i : Nat), i + m = nk → l_X10_foundSet_4 120 Q (m + 1) (fsZ (M 121) i) (nI i) M := by
    intro m
    induction m with
    | zero =>
      intro i hi
      have : i = nk := by omega
      subst this
      show B_X10_foundSet_4 120 Q _ _ _ _
      unfold B_X10_foundSet_4
      rw [show M (120 + 1) 2 = nI i from hR.2.1.1]
      exact br_t (nI_le (Nat.le_refl _) (by omega)) hQ
    | succ m ih =>
      intro i hi
      show B_X10_foundSet_4 120 Q _ _ _ _
      unfold B_X10_foundSet_4
      rw [show M (120 + 1) 2 = nI nk from hR.2.1.1]
      refine br_f (nI_ge (by omega) (by omega)) ?_
      refine sp_its (w := 5) (by omega) (by decide) ?_
      intro y ey z ez
      rw [nI_1] at ez
      subst ez ey
      exact ih (i + 1) (by omega)
  unfold wp_X10_foundSet
  exact ⟨by decide, nk + 1, p nk 0 (by omega)⟩
