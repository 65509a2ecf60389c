def lowZ (b v : Int32) : Int32 := if b = 8 then v.toInt8.toInt32 else if b = 16 then v.toInt16.toInt32 else v
theorem sp_low {q : Nat} {v : Int32} {M : Mem} {Q : Int32 → Mem → Prop} (k6 : kdT q = 6) (hQ : Q (lowZ (M q 1) v) M) : wp_X6_lowestBits q v M Q := by
  unfold wp_X6_lowestBits
  unfold lowZ at hQ
  refine ⟨k6, fun z => ?_, fun z => ?_, fun z8 z16 => ?_⟩
  · rw [if_pos z] at hQ; exact hQ
  · rw [if_neg (by rw [z]; decide), if_pos z] at hQ; exact hQ
  · rw [if_neg z8, if_neg z16] at hQ; exact hQ
theorem sp_narrow {b v : Int32} {M : Mem} {Q : Int32 → Mem → Prop} (hQ : Q (lowZ b v) M) : wp_X10_narrow b v M Q := by
  unfold wp_X10_narrow
  unfold lowZ at hQ
  refine ⟨fun z8 => ⟨fun z16 => ?_, fun z => ?_⟩, fun z => ?_⟩
  · rw [if_neg z8, if_neg z16] at hQ; exact hQ
  · rw [if_neg z8, if_pos z] at hQ; exact hQ
  · rw [if_pos z] at hQ; exact hQ
theorem sp_holds {h n : Nat} {a : Int32} {M : Mem} {Q : Int32 → Mem → Prop} (k3 : kdT h = 3) (hs : M h 1 = nI n) (hn : n < 2 ^ 30) (hQ : Q (bi (zin a 0 (nI n - 1))) M) : wp_X3_holds h a M Q := by
  unfold wp_X3_holds
  refine ⟨k3, ?_⟩
  rw [hs]
  by_cases q : zin a 0 (nI n - 1)
  · obtain ⟨i, hi, rfl⟩ := (zin_cnt hn).mp q
    rw [bi_t q] at hQ
    exact br_f (nI_pos (by omega)) (br_f (nI_ge hi (by omega)) hQ)
  · rw [bi_f q] at hQ
    by_cases a0 : a < 0
    · exact br_t a0 hQ
    · refine br_f a0 ?_
      by_cases an : nI n ≤ a
      · exact br_t an hQ
      · refine absurd ?_ q
        have a1 := nle_lt.mp a0
        have a2 := nlt_le.mp an
        rw [i_le] at a1
        rw [i_lt, nI_toInt (by omega)] at a2
        have z : (0 : Int32).toInt = 0 := by decide
        obtain ⟨i, hi, e⟩ := nI_of2 (nI_toInt (n := n) (by omega)) a0 (i_le.mpr (by rw [nI_toInt (by omega)]; omega))
        refine (zin_cnt hn).mpr ⟨i, ?_, e⟩
        rw [e, nI_toInt (by omega)] at a2
        omega
theorem call_put {n : Nat} {M : Mem} (h : INV n M) (a b c : Int32) : wp_X9_put 0 a b c M (fun r M1 => wp_X10_put 120 a b c M1 (fun r2 M2 => r = r2 ∧ INV (n + 1) M2)) := by
  unfold wp_X9_put
  refine ⟨by decide, ?_⟩
  rw [e_isSheet]
  by_cases h1 : zin a 0 3
  · refine b2t h1 ?_
    obtain ⟨s, hs, rfl⟩ := (zin_nI (n := 3) (by decide)).mp h1
    obtain ⟨k6, k3, l40⟩ := sh_kd s (by omega)
    obtain ⟨z, hz, ez, eb, es, ej, hbt⟩ := h.sh (s := s) (by omega)
    refine ⟨vp_in_nI (by omega) (by decide), ?_⟩
    rw [nI_clamp (by omega)]
    intro q eq
    have eq : q = 108 + 3 * s := by omega
    subst eq
    unfold wp_X6_isMissing
    refine ⟨k6, ?_⟩
    dsimp only
    rw [eb, show 108 + 3 * s + 1 = 109 + 3 * s from by omega]
    have mdl : ∀ (M1 : Mem) (Q : Int32 → Mem → Prop), M1 129 = M 129 → M1 130 = M 130 → (M 129 s = 0 → wp_X10_errs 120 (-1000000002) M1 Q) → (¬ M 129 s = 0 → ¬ zin b 0 (nI z - 1) → wp_X10_errs 120 (-1000000001) M1 Q) → (¬ M 129 s = 0 → ∀ i, i < z → b = nI i → Q 1 (mu M1 131 (40 * s + i) (lowZ (M 129 s) c))) → wp_X10_put 120 (nI s) b c M1 Q := by
      intro M1 Q f1 f2 g1 g2 g3
      unfold wp_X10_put
      refine ⟨by decide, ?_⟩
      rw [e_mSheet]
      refine b2t h1 ⟨vp_in_nI (by omega) (by decide), ?_⟩
      rw [nI_clamp (by omega), show M1 (120 + 9) = M 129 from f1, show M1 (120 + 10) = M 130 from f2, ez]
      refine ⟨fun zb => ⟨vp_in_nI (by omega) (by decide), ?_⟩, g1⟩
      rw [e_in]
      by_cases q : zin b 0 (nI z - 1)
      · refine b2t q ⟨vp_in_nI (by omega) (by decide), ?_⟩
        obtain ⟨i, hi, rfl⟩ := (zin_cnt (by omega)).mp q
        rw [show M1 (120 + 9) = M 129 from f1]
        refine sp_narrow ?_
        rw [show (40 : Int32) = nI 40 from rfl, pk_mul, nI_add]
        refine ⟨vp_in_nI (by omega) (by decide), ?_⟩
        rw [nI_clamp (by omega)]
        intro M2 e2
        subst e2
        exact g3 zb i hi rfl
      · exact b2f q (g2 zb q)
    by_cases g : M 129 s = 0
    · refine ⟨fun z => absurd g z, fun _ => ⟨fun z => absurd z (by decide), fun _ => sp_refuse (k := 2) (by decide) (by decide) ?_⟩⟩
      exact mdl _ _ (mu_ne (by decide)) (mu_ne (by decide)) (fun _ => fin_err (e := -1000000002) h (k := 2) (by decide) (by decide) rfl) (fun z => absurd g z) (fun z => absurd g z)
    refine ⟨fun _ => ⟨fun _ => ?_, fun z => absurd rfl z⟩, fun z => absurd z g⟩
    refine sp_holds k3 es (by omega) ?_
    by_cases q : zin b 0 (nI z - 1)
    · refine b2t q (sp_low k6 ?_)
      rw [eb]
      obtain ⟨i, hi, rfl⟩ := (zin_cnt (by omega)).mp q
      unfold wp_X3_replace
      refine ⟨k3, sp_holds k3 es (by omega) (b1t q ?_)⟩
      rw [show 109 + 3 * s + 1 = 110 + 3 * s from by omega, l40]
      refine ⟨vp_in_nI (by omega) (by decide), ?_⟩
      rw [nI_clamp (by omega)]
      intro M1 e1
      have K : ∀ b, b ≠ 110 + 3 * s → M1 b = M b := fun b hb => by rw [e1, mu_ne hb]
      refine mdl M1 _ (K _ (by omega)) (K _ (by omega)) (fun z => absurd z g) (fun _ z => absurd q z) (fun _ i' hi' ei => ?_)
      rw [nI_eq (by omega) (by omega)] at ei
      subst ei
      refine ⟨rfl, ?_⟩
      have f129 : (mu M1 131 (40 * s + i) (lowZ (M 129 s) c)) 129 = M 129 := by rw [mu_ne (by decide), K _ (by omega)]
      have f130 : (mu M1 131 (40 * s + i) (lowZ (M 129 s) c)) 130 = M 130 := by rw [mu_ne (by decide), K _ (by omega)]
      refine h.sheets (s := s) (M1 := M1) (by omega) (by rw [f129]; exact hbt) ⟨z, hz, by rw [f130]; exact ez⟩ (by rw [f129, K _ (by omega)]; exact eb) ⟨?_, fun j hj => ?_⟩ (fun b _ g1 g2 g3 => K b g3) (fun b hb => mu_ne (by omega)) (fun b hb g1 g2 g3 g4 => by rw [mu_ne g3, K b (by omega)]) (fun t ht q => by rw [f129]) (fun t ht q => by rw [f130]) (fun t ht q j hj => by rw [mu_off (by omega), K _ (by omega)])
      · rw [f130, ez, show 108 + 3 * s + 1 = 109 + 3 * s from by omega, K _ (by omega)]; exact es
      · rw [f130, ez, tn, nI_clamp (by omega)] at hj
        rw [show 108 + 3 * s + 1 + 1 = 110 + 3 * s from by omega, e1]
        by_cases q2 : j = i
        · subst q2; rw [mu_hit]; exact mu_hit.symm
        · rw [mu_off q2]
          dsimp only
          rw [mu_off (by omega), mu_ne (by omega)]; exact ej j hj
    · refine b2f q (sp_refuse (k := 1) (by decide) (by decide) ?_)
      exact mdl _ _ (mu_ne (by decide)) (mu_ne (by decide)) (fun z => absurd z g) (fun _ _ => fin_err (e := -1000000001) h (k := 1) (by decide) (by decide) rfl) (fun _ i hi e => absurd ((zin_cnt (by omega)).mpr ⟨i, hi, e⟩) q)
  · refine b2f h1 (sp_refuse (k := 1) (by decide) (by decide) ?_)
    unfold wp_X10_put
    refine ⟨by decide, ?_⟩
    rw [e_mSheet]
    exact b2f h1 (fin_err (e := -1000000001) h (k := 1) (by decide) (by decide) rfl)
/-- a run of numbers within a sheet -/
def runOK (z : Nat) (i m : Int32) : Prop := ∃ i' m', i = nI i' ∧ m = nI m' ∧ i' + m' ≤ z
theorem sub_toInt {a : Nat} {m : Int32} (ha : a ≤ 40) (hm : ¬ m < 0) : (nI a - m).toInt = a - m.toInt := by
  have h1 := nle_lt.mp hm
  rw [i_le, show (0 : Int32).toInt = 0 from by decide] at h1
  have h2 := m.toInt_lt
  rw [Int32.toInt_sub, nI_toInt (by omega)]
  exact Int.bmod_eq_of_le (by omega) (by omega)
theorem sp_holdsRun {h z : Nat} {i m : Int32} {M : Mem} {Q : Int32 → Mem → Prop} (k3 : kdT h = 3) (hs : M h 1 = nI z) (hz : z ≤ 40) (h1 : runOK z i m → Q 1 M) (h0 : ¬ runOK z i m → Q 0 M) : wp_X3_holdsRun h i m M Q := by
  unfold wp_X3_holdsRun
  refine ⟨k3, ?_⟩
  rw [hs]
  have pos : ∀ x : Int32, x = nI (tn x) ∨ x < 0 := fun x => by
    by_cases q : x < 0
    · exact Or.inr q
    · refine Or.inl ?_
      have := nle_lt.mp q
      rw [i_le, show (0 : Int32).toInt = 0 from by decide] at this
      rw [i_eq, nI_toInt (by have := x.toInt_lt; unfold tn Int32.toNatClampNeg; omega)]
      unfold tn Int32.toNatClampNeg
      omega
  by_cases m0 : m < 0
  · refine br_t m0 (h0 ?_)
    rintro ⟨i', m', -, rfl, e⟩
    exact nI_pos (by omega) m0
  · refine br_f m0 ?_
    by_cases mz : nI z < m
    · refine br_t mz (h0 ?_)
      rintro ⟨i', m', -, rfl, e⟩
      exact nI_nlt (a := z) (b := m') (by omega) (by omega) mz
    · refine br_f mz ?_
      by_cases i0 : i < 0
      · refine br_t i0 (h0 ?_)
        rintro ⟨i', m', rfl, -, e⟩
        exact nI_pos (by omega) i0
      · refine br_f i0 ?_
        by_cases lt : nI z - m < i
        · refine br_t lt (h0 ?_)
          rintro ⟨i', m', rfl, rfl, e⟩
          rw [i_lt, sub_toInt hz m0, nI_toInt (by omega), nI_toInt (by omega)] at lt
          omega
        · refine br_f lt (h1 ?_)
          have e1 := (pos i).resolve_right i0
          have e2 := (pos m).resolve_right m0
          have a1 := i.toInt_lt
          have a2 := m.toInt_lt
          have b1 := nle_lt.mp i0
          have b2 := nle_lt.mp m0
          rw [i_le, show (0 : Int32).toInt = 0 from by decide] at b1 b2
          rw [i_lt, sub_toInt hz m0] at lt
          refine ⟨tn i, tn m, e1, e2, ?_⟩
          unfold tn Int32.toNatClampNeg
          omega
