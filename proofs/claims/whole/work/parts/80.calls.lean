/-- MOVE -/
theorem posZ (x : Int32) (q : ¬ x < 0) : x = nI (tn x) ∧ x.toInt = (tn x : Int) ∧ tn x < 2 ^ 31 := by
  have := nle_lt.mp q
  have h2 := x.toInt_lt
  rw [i_le, show (0 : Int32).toInt = 0 from by decide] at this
  have e : x.toInt = (tn x : Int) := by unfold tn Int32.toNatClampNeg; omega
  have l : tn x < 2 ^ 31 := by omega
  exact ⟨by rw [i_eq, nI_toInt l]; exact e, e, l⟩
theorem run_of {z : Nat} {i m : Int32} (hz : z ≤ 40) (hm : ¬ m < 0) (hi : ¬ i < 0) (hl : ¬ nI z - m < i) : runOK z i m := by
  obtain ⟨a1, a2, a3⟩ := posZ i hi
  obtain ⟨b1, b2, b3⟩ := posZ m hm
  rw [i_lt, sub_toInt hz hm, a2, b2] at hl
  exact ⟨tn i, tn m, a1, b1, by omega⟩
theorem run_not {z : Nat} {i m : Int32} (hz : z ≤ 40) (h : runOK z i m) : ¬ m < 0 ∧ ¬ i < 0 ∧ ¬ nI z - m < i := by
  obtain ⟨i', m', rfl, rfl, e⟩ := h
  have m0 : ¬ nI m' < 0 := nI_pos (by omega)
  refine ⟨m0, nI_pos (by omega), fun w => ?_⟩
  rw [i_lt, sub_toInt hz m0, nI_toInt (by omega), nI_toInt (by omega)] at w
  omega
theorem call_move {n : Nat} {M : Mem} (h : INV n M) (a i b j m : Int32) : wp_X9_move 0 a i b j m M (fun r M1 => wp_X10_move 120 a i b j m M1 (fun r2 M2 => r = r2 ∧ INV (n + 1) M2)) := by
  have bad : ¬ (zin a 0 3 ∧ zin b 0 3) → wp_X9_refuse 0 1 M (fun r M1 => wp_X10_move 120 a i b j m M1 (fun r2 M2 => r = r2 ∧ INV (n + 1) M2)) := by
    intro hb
    refine sp_refuse (k := 1) (by decide) (by decide) ?_
    unfold wp_X10_move b_X10_move_14
    refine ⟨by decide, ?_⟩
    rw [e_mSheet, e_mSheet]
    have fe := fin_err (e := -1000000001) h (k := 1) (by decide) (by decide) rfl
    by_cases h1 : zin a 0 3
    · exact b1t h1 (b2f (fun z => hb ⟨h1, z⟩) fe)
    · exact b1f h1 fe
  unfold wp_X9_move b_X9_move_14
  refine ⟨by decide, ?_⟩
  rw [e_isSheet, e_isSheet]
  by_cases h1 : zin a 0 3
  · refine b1t h1 ?_
    by_cases h2 : zin b 0 3
    · refine b2t h2 ?_
      obtain ⟨s, hs, rfl⟩ := (zin_nI (n := 3) (by decide)).mp h1
      obtain ⟨t, ht, rfl⟩ := (zin_nI (n := 3) (by decide)).mp h2
      obtain ⟨k6, k3, l40⟩ := sh_kd s (by omega)
      obtain ⟨k6', k3', l40'⟩ := sh_kd t (by omega)
      obtain ⟨z, hz, ez, eb, es, ej, hbt⟩ := h.sh (s := s) (by omega)
      obtain ⟨z', hz', ez', eb', es', ej', hbt'⟩ := h.sh (s := t) (by omega)
      refine ⟨vp_in_nI (by omega) (by decide), ?_⟩
      rw [nI_clamp (by omega)]
      intro q eq
      have eq : q = 108 + 3 * s := by omega
      subst eq
      refine ⟨vp_in_nI (by omega) (by decide), ?_⟩
      rw [nI_clamp (by omega)]
      intro q eq
      have eq : q = 108 + 3 * t := by omega
      subst eq
      unfold wp_X6_isMissing b_X9_move_52 b_X9_move_106
      refine ⟨k6, ?_⟩
      dsimp only
      rw [eb, eb', show 108 + 3 * s + 1 = 109 + 3 * s from by omega, show 108 + 3 * t + 1 = 109 + 3 * t from by omega]
      -- the reference
      have mdl : ∀ (M1 : Mem) (Q : Int32 → Mem → Prop), M1 129 = M 129 → M1 130 = M 130 → ((M 129 s = 0 ∨ M 129 t = 0) → wp_X10_errs 120 (-1000000002) M1 Q) → (¬ M 129 s = 0 → ¬ M 129 t = 0 → ¬ M 129 s = M 129 t → wp_X10_errs 120 (-1000000005) M1 Q) → (¬ M 129 s = 0 → ¬ M 129 t = 0 → M 129 s = M 129 t → ¬ (runOK z i m ∧ runOK z' j m) → wp_X10_errs 120 (-1000000001) M1 Q) → (¬ M 129 s = 0 → ¬ M 129 t = 0 → M 129 s = M 129 t → (runOK z i m ∧ runOK z' j m) → ∃ n, l_X10_move_119 120 Q (nI s) i (nI t) j m n 0 M1) → wp_X10_move 120 (nI s) i (nI t) j m M1 Q := by
        intro M1 Q f1 f2 g1 g2 g3 g4
        unfold wp_X10_move b_X10_move_39 b_X10_move_109
        refine ⟨by decide, ?_⟩
        rw [e_mSheet, e_mSheet]
        refine b1t h1 (b2t h2 ⟨vp_in_nI (by omega) (by decide), ?_⟩)
        rw [nI_clamp (by omega), nI_clamp (by omega), show M1 (120 + 9) = M 129 from f1, show M1 (120 + 10) = M 130 from f2, ez, ez']
        refine ⟨fun w => g1 (Or.inl w), fun w1 => ⟨vp_in_nI (by omega) (by decide), fun w2 => ⟨vp_in_nI (by omega) (by decide), vp_in_nI (by omega) (by decide), fun w3 => ?_, fun w3 => g2 w1 w2 w3⟩, fun w => g1 (Or.inr w)⟩⟩
        have er : ¬ (runOK z i m ∧ runOK z' j m) → wp_X10_errs 120 (-1000000001) M1 Q := g3 w1 w2 w3
        by_cases m0 : m < 0
        · exact br_t m0 (er (fun w => (run_not hz w.1).1 m0))
        refine br_f m0 ?_
        by_cases i0 : i < 0
        · exact br_t i0 (er (fun w => (run_not hz w.1).2.1 i0))
        refine br_f i0 ?_
        by_cases j0 : j < 0
        · exact br_t j0 (er (fun w => (run_not hz' w.2).2.1 j0))
        refine br_f j0 ⟨vp_in_nI (by omega) (by decide), ?_⟩
        by_cases x1 : nI z - m < i
        · exact br_t x1 (er (fun w => (run_not hz w.1).2.2 x1))
        refine br_f x1 ⟨vp_in_nI (by omega) (by decide), ?_⟩
        by_cases x2 : j ≤ nI z' - m
        · exact br_t x2 (g4 w1 w2 w3 ⟨run_of hz m0 i0 x1, run_of hz' m0 j0 (nle_lt.mpr x2)⟩)
        · exact br_f x2 (er (fun w => (run_not hz' w.2).2.2 (nlt_le.mp x2)))
      have none : (M 129 s = 0 ∨ M 129 t = 0) → wp_X9_refuse 0 2 M (fun r M1 => wp_X10_move 120 (nI s) i (nI t) j m M1 (fun r2 M2 => r = r2 ∧ INV (n + 1) M2)) := by
        intro w
        refine sp_refuse (k := 2) (by decide) (by decide) ?_
        refine mdl _ _ (mu_ne (by decide)) (mu_ne (by decide)) (fun _ => fin_err (e := -1000000002) h (k := 2) (by decide) (by decide) rfl) (fun w1 w2 => ?_) (fun w1 w2 => ?_) (fun w1 w2 => ?_)
        all_goals (rcases w with w | w)
        all_goals first | exact absurd w w1 | exact absurd w w2
      by_cases g1 : M 129 s = 0
      · exact ⟨fun w => absurd g1 w, fun _ => ⟨fun _ => none (Or.inl g1), fun w => absurd w (by decide)⟩⟩
      refine ⟨fun _ => ⟨fun w => absurd rfl w, fun _ => ⟨k6', ?_⟩⟩, fun w => absurd w g1⟩
      by_cases g2 : M 129 t = 0
      · exact ⟨fun w => absurd g2 w, fun _ => ⟨fun w => absurd w (by decide), fun _ => none (Or.inr g2)⟩⟩
      refine ⟨fun _ => ⟨fun _ => ?_, fun w => absurd rfl w⟩, fun w => absurd w g2⟩
      by_cases g3 : M 129 s = M 129 t
      · refine ⟨fun _ => ?_, fun w => absurd g3 w⟩
        have beyond : ¬ (runOK z i m ∧ runOK z' j m) → wp_X9_refuse 0 1 M (fun r M1 => wp_X10_move 120 (nI s) i (nI t) j m M1 (fun r2 M2 => r = r2 ∧ INV (n + 1) M2)) := by
          intro w
          refine sp_refuse (k := 1) (by decide) (by decide) ?_
          exact mdl _ _ (mu_ne (by decide)) (mu_ne (by decide)) (fun w => by rcases w with w | w; exact absurd w g1; exact absurd w g2) (fun _ _ w => absurd g3 w) (fun _ _ _ _ => fin_err (e := -1000000001) h (k := 1) (by decide) (by decide) rfl) (fun _ _ _ w2 => absurd w2 w)
        refine sp_holdsRun k3 es hz (fun r1 => ⟨fun w => absurd w (by decide), fun _ => ?_⟩) (fun r1 => ⟨fun _ => beyond (fun w => r1 w.1), fun w => absurd rfl w⟩)
        refine sp_holdsRun k3' es' hz' (fun r2 => ⟨fun _ => ?_, fun w => absurd w (by decide)⟩) (fun r2 => ⟨fun w => absurd rfl w, fun _ => beyond (fun w => r2 w.2)⟩)
        obtain ⟨i', m', rfl, rfl, hi⟩ := r1
        obtain ⟨j', m2, rfl, em, hj⟩ := r2
        have em : m' = m2 := by
          have l2 : m2 < 2 ^ 31 := by omega
          exact (nI_eq (by omega) l2).mp em
        subst em
        unfold wp_X3_replaceRun
        refine ⟨k3', k3, sp_holdsRun k3' es' hz' (fun _ => ⟨fun w => absurd w (by decide), fun _ => ?_⟩) (fun w => absurd ⟨j', m', rfl, rfl, hj⟩ w)⟩
        refine sp_holdsRun k3 es hz (fun _ => ⟨fun w => absurd w (by decide), fun _ => ?_⟩) (fun w => absurd ⟨i', m', rfl, rfl, hi⟩ w)
        rw [show 109 + 3 * s + 1 = 110 + 3 * s from by omega, show 109 + 3 * t + 1 = 110 + 3 * t from by omega, l40, l40', nI_clamp (by omega), nI_clamp (by omega), nI_clamp (by omega)]
        refine ⟨⟨nI_pos (by omega), nI_pos (by omega), nI_pos (by omega), by omega, by omega⟩, ?_⟩
        intro M1 e1
        have K : ∀ b, b ≠ 110 + 3 * t → M1 b = M b := fun b hb => by rw [e1, mcp_ne hb]
        refine mdl M1 _ (K _ (by omega)) (K _ (by omega)) (fun w => by rcases w with w | w; exact absurd w g1; exact absurd w g2) (fun _ _ w => absurd g3 w) (fun _ _ _ w => absurd ⟨⟨i', m', rfl, rfl, hi⟩, ⟨j', m', rfl, rfl, hj⟩⟩ w) (fun _ _ _ _ => ?_)
        have k131 : M1 131 = M 131 := K _ (by omega)
        have p2 : ∀ (u k : Nat) (M3 : Mem), k + u = m' → (∀ x, x < m' → M3 132 x = M 131 (40 * s + i' + x)) → (∀ x, x < k → M3 131 (40 * t + j' + x) = M 131 (40 * s + i' + x)) → (∀ x, (x < 40 * t + j' ∨ 40 * t + j' + k ≤ x) → M3 131 x = M 131 x) → (∀ b, b ≠ 131 → b ≠ 132 → M3 b = M1 b) → l_X10_move_156 120 (fun r2 M2 => nI m' = r2 ∧ INV (n + 1) M2) (nI t) (nI j') (nI m') (u + 1) (nI k) M3 := by
          intro u
          induction u with
          | zero =>
            intro k M3 hk c1 c2 c3 c4
            have : k = m' := by omega
            subst this
            show B_X10_move_156 120 _ _ _ _ _ _ _
            unfold B_X10_move_156
            refine br_t (nI_le (Nat.le_refl _) (by omega)) ⟨rfl, ?_⟩
            have f129 : M3 129 = M 129 := (c4 129 (by decide) (by decide)).trans (K _ (by omega))
            have f130 : M3 130 = M 130 := (c4 130 (by decide) (by decide)).trans (K _ (by omega))
            refine h.sheets (s := t) (M1 := M1) (by omega) (by rw [f129]; exact hbt') ⟨z', hz', by rw [f130]; exact ez'⟩ (by rw [f129, K _ (by omega)]; exact eb') ⟨?_, fun x hx => ?_⟩ (fun b _ _ _ w => K b w) (fun b hb => c4 b (by omega) (by omega)) (fun b hb w1 w2 w3 w4 => (c4 b w3 w4).trans (K b (by omega))) (fun y _ _ => by rw [f129]) (fun y _ _ => by rw [f130]) (fun y hy hne x hx => c3 _ (by omega))
            · rw [f130, ez', show 108 + 3 * t + 1 = 109 + 3 * t from by omega, K _ (by omega)]; exact es'
            · rw [f130, ez', tn, nI_clamp (by omega)] at hx
              rw [show 108 + 3 * t + 1 + 1 = 110 + 3 * t from by omega, e1, mcp_same]
              unfold va_cpy
              by_cases w : j' ≤ x ∧ x < j' + k
              · rw [if_pos w]
                dsimp only
                have := c2 (x - j') (by omega)
                rw [show 40 * t + j' + (x - j') = 40 * t + x from by omega] at this
                rw [this, ej _ (by omega), show 40 * s + (i' + (x - j')) = 40 * s + i' + (x - j') from by omega]
              · rw [if_neg w]
                dsimp only
                rw [c3 _ (by omega)]; exact ej' x hx
          | succ u ih =>
            intro k M3 hk c1 c2 c3 c4
            show B_X10_move_156 120 _ _ _ _ _ _ _
            unfold B_X10_move_156
            refine br_f (nI_ge (by omega) (by omega)) ?_
            rw [show (40 : Int32) = nI 40 from rfl, pk_mul, nI_add, nI_add]
            refine ⟨vp_in_nI (by omega) (by decide), vp_in_nI (by omega) (by decide), ?_⟩
            rw [nI_clamp (by omega), nI_clamp (by omega)]
            intro M4 e4 x ex
            rw [nI_1] at ex
            subst ex
            have e4 : M4 = mu M3 131 (40 * t + j' + k) (M 131 (40 * s + i' + k)) := by rw [e4, show M3 (120 + 12) k = _ from c1 k (by omega)]
            refine ih (k + 1) M4 (by omega) (fun x hx => by rw [e4, mu_ne (by decide)]; exact c1 x hx) (fun x hx => ?_) (fun x hx => ?_) (fun b w1 w2 => by rw [e4, mu_ne w1]; exact c4 b w1 w2)
            · rw [e4]
              by_cases w : x = k
              · subst w; rw [mu_hit]
              · rw [mu_off (by omega)]; exact c2 x (by omega)
            · rw [e4, mu_off (by omega)]; exact c3 x (by omega)
        have p1 : ∀ (u k : Nat) (M3 : Mem), k + u = m' → (∀ x, x < k → M3 132 x = M 131 (40 * s + i' + x)) → (∀ b, b ≠ 132 → M3 b = M1 b) → l_X10_move_119 120 (fun r2 M2 => nI m' = r2 ∧ INV (n + 1) M2) (nI s) (nI i') (nI t) (nI j') (nI m') (u + 1) (nI k) M3 := by
          intro u
          induction u with
          | zero =>
            intro k M3 hk c1 c4
            have : k = m' := by omega
            subst this
            show B_X10_move_119 120 _ _ _ _ _ _ _ _ _
            unfold B_X10_move_119
            exact br_t (nI_le (Nat.le_refl _) (by omega)) ⟨k + 1, p2 k 0 M3 (by omega) c1 (fun x hx => by omega) (fun x _ => by rw [c4 131 (by decide), k131]) (fun b _ w => c4 b w)⟩
          | succ u ih =>
            intro k M3 hk c1 c4
            show B_X10_move_119 120 _ _ _ _ _ _ _ _ _
            unfold B_X10_move_119
            refine br_f (nI_ge (by omega) (by omega)) ?_
            rw [show (40 : Int32) = nI 40 from rfl, pk_mul, nI_add, nI_add]
            refine ⟨vp_in_nI (by omega) (by decide), vp_in_nI (by omega) (by decide), ?_⟩
            rw [nI_clamp (by omega), nI_clamp (by omega)]
            intro M4 e4 x ex
            rw [nI_1] at ex
            subst ex
            have e4 : M4 = mu M3 132 k (M 131 (40 * s + i' + k)) := by rw [e4, show M3 (120 + 11) = M 131 from (c4 131 (by decide)).trans k131]
            refine ih (k + 1) M4 (by omega) (fun x hx => ?_) (fun b w => by rw [e4, mu_ne w]; exact c4 b w)
            rw [e4]
            by_cases w : x = k
            · subst w; rw [mu_hit]
            · rw [mu_off w]; exact c1 x (by omega)
        exact ⟨m' + 1, p1 m' 0 M1 (by omega) (fun x hx => by omega) (fun _ _ => rfl)⟩
      · refine ⟨fun w => absurd w g3, fun _ => sp_refuse (k := 5) (by decide) (by decide) ?_⟩
        exact mdl _ _ (mu_ne (by decide)) (mu_ne (by decide)) (fun w => by rcases w with w | w; exact absurd w g1; exact absurd w g2) (fun _ _ _ => fin_err (e := -1000000005) h (k := 5) (by decide) (by decide) rfl) (fun _ _ w => absurd w g3) (fun _ _ w => absurd w g3)
    · exact b2f h2 (bad (fun z => h2 z.2))
  · exact b1f h1 (bad (fun z => h1 z.1))
/-- IMAGE, RESTORE -/
theorem row_eq {M : Mem} (hz : z3 M) : mcp M 121 0 122 0 242 122 = M 121 := by
  funext i
  rw [mcp_same]
  unfold va_cpy
  by_cases q : i < 242
  · rw [if_pos (by omega)]; congr 1; omega
  · rw [if_neg (by omega), (hz i (by omega)).1, (hz i (by omega)).2.1]
theorem row_eq2 {M : Mem} (hz : z3 M) : mcp M 122 0 121 0 242 121 = M 122 := by
  funext i
  rw [mcp_same]
  unfold va_cpy
  by_cases q : i < 242
  · rw [if_pos (by omega)]; congr 1; omega
  · rw [if_neg (by omega), (hz i (by omega)).1, (hz i (by omega)).2.1]
