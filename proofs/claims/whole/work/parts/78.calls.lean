theorem call_order {n : Nat} {M : Mem} (h : INV n M) (a : Int32) : wp_X9_order 0 a M (fun r M1 => wp_X10_order 120 a M1 (fun r2 M2 => r = r2 ∧ INV (n + 1) M2)) := by
  obtain ⟨ns, nk, hr, hR, hh⟩ := h.ro
  have n7 := hR.2.1.2
  have n6 := hR.1.2
  unfold wp_X9_order
  refine ⟨by decide, ?_⟩
  rw [e_isSheet]
  by_cases h1 : zin a 0 3
  · refine b2t h1 ?_
    obtain ⟨s, hs, rfl⟩ := (zin_nI (n := 3) (by decide)).mp h1
    obtain ⟨k6, k3, l40⟩ := sh_kd s (by omega)
    obtain ⟨z, hz, ez, eb, es, ej, -⟩ := h.sh (s := s) (by omega)
    obtain ⟨r, er⟩ : ∃ r, r = M 121 := ⟨_, rfl⟩
    rw [← er] at hR
    refine ⟨vp_in_nI (by omega) (by decide), ?_⟩
    rw [nI_clamp (by omega)]
    intro q eq
    have eq : q = 108 + 3 * s := by omega
    subst eq
    unfold wp_X6_isMissing
    refine ⟨k6, ?_⟩
    dsimp only
    rw [eb]
    by_cases g : M 129 s = 0
    · refine ⟨fun z => absurd g z, fun _ => ⟨fun z => absurd z (by decide), fun _ => sp_refuse (k := 2) (by decide) (by decide) ?_⟩⟩
      unfold wp_X10_order
      refine ⟨by decide, ?_⟩
      rw [e_mSheet]
      refine b2t h1 ⟨vp_in_nI (by omega) (by decide), ?_⟩
      rw [nI_clamp (by omega), show (mu M 107 2 (M 107 2 + 1)) (120 + 9) = M 129 from mu_ne (by decide)]
      exact ⟨fun z => absurd g z, fun _ => fin_err (e := -1000000002) h (k := 2) (by decide) (by decide) rfl⟩
    refine ⟨fun _ => ⟨fun _ => ?_, fun z => absurd rfl z⟩, fun z => absurd z g⟩
    refine sp_think h (fun M1 t1 m1 => ?_)
    rw [← er] at m1
    refine sp_passHours (o := 69) (n := 60) (by decide) m1 hR (by omega) (fun M2 m2 f2 o2 => ?_)
    have t2 := t1.tr (TC.of o2 m2)
    intro q eq
    have eq : q = 83 := by omega
    subst eq
    obtain ⟨l, el⟩ : ∃ l, l = passL ns nk r [] 60 := ⟨_, rfl⟩
    rw [← el] at f2
    obtain ⟨F1, F2, F3⟩ := f2
    have F1 : M2 83 1 = nI l.length := F1
    have F3 : ∀ j, j < l.length → M2 84 j = l.getD j 0 := F3
    have e : M2 121 = r := (t2.off (by omega)).trans er.symm
    have es2 : M2 (109 + 3 * s) 1 = nI z := (congrFun (t2.off (by omega)) 1).trans es
    have ej2 : ∀ j, j < z → M2 (110 + 3 * s) j = M 131 (40 * s + j) := fun j hj => (congrFun (t2.off (by omega)) j).trans (ej j hj)
    obtain ⟨G, eG⟩ : ∃ G : Nat → Int32, G = fun j => M 131 (40 * s + j) := ⟨_, rfl⟩
    -- the reference
    have mdl : ∀ p, PM l z G p → wp_X10_order 120 (nI s) M2 (fun r2 M2 => nI p = r2 ∧ INV (n + 1) M2) := by
      intro p hp
      obtain ⟨Mt, eMt⟩ : ∃ Mt, Mt = mcp M2 121 0 123 0 242 := ⟨_, rfl⟩
      have et : Mt 121 = r := by rw [eMt]; exact (mcp_ne (by decide)).trans e
      have stop : ∀ (h' : Nat) (M3 : Mem) (v2 : Int32), h' ≤ 60 → only scrH Mt M3 → M3 121 = passZ ns nk r h' → v2 = nI p → b_X10_order_153 120 (fun r2 M2 => nI p = r2 ∧ INV (n + 1) M2) v2 M3 := by
        intro h' M3 v2 hh' o3 e3 ev
        unfold b_X10_order_153
        refine sp_moveAll (a := 123) (d := 121) (by omega) (by omega) (by omega) ?_
        rw [eMt] at o3
        obtain ⟨b1, b2⟩ := back_all o3 (fun i hi => by rw [e3, e]; exact pass_out hR hi h' (by omega))
        exact ⟨ev.symm, (h.tc t2).fq b2 b1⟩
      have pm : ∀ (m i : Nat) (M3 : Mem) (v2 v3 : Int32), i + m = 60 → only scrH Mt M3 → M3 121 = passZ ns nk r i → MS (passL ns nk r [] i) z G v2 v3 → l_X10_order_49 120 (fun r2 M2 => nI p = r2 ∧ INV (n + 1) M2) (nI s) (m + 1) v2 v3 (nI i) M3 := by
        intro m
        induction m with
        | zero =>
          intro i M3 v2 v3 hi o3 e3 hms
          have : i = 60 := by omega
          subst this
          show B_X10_order_49 120 _ _ _ _ _ _ _
          unfold B_X10_order_49
          refine br_t (by decide) (stop 60 M3 v2 (by omega) o3 e3 ?_)
          rw [← el] at hms
          rcases hms with ⟨c, c1, c2, c3⟩ | c
          · rw [c1, PM.uniq hp ⟨Nat.le_refl _, c2, c3, Or.inl rfl⟩]
          · obtain ⟨p', e', hp'⟩ := MS.pm (l := l) (l' := l) (z := z) (g := G) (v2 := v2) (Or.inr ⟨rfl, c.2⟩) pre.rf
            rw [e', PM.uniq hp hp']
        | succ m ih =>
          intro i M3 v2 v3 hi o3 e3 hms
          show B_X10_order_49 120 _ _ _ _ _ _ _
          unfold B_X10_order_49
          refine br_f (fun z => nI_ge (a := i) (b := 60) (by omega) (by decide) z) ?_
          refine ⟨fun z0 => stop i M3 v2 (by omega) o3 e3 ?_, fun z1 => ?_⟩
          · subst z0
            obtain ⟨p', e', hp'⟩ := hms.pm (l' := l) (by rw [el]; exact pre.pass' (by omega))
            rw [e', PM.uniq hp hp']
          have hRi := pass_RO hR i (by omega)
          refine sp_mHour (by rw [e3]; exact hRi) (fun M4 e4 f4 o4 => ?_)
          rw [e3] at e4 f4
          have o14 := o3.tr o4
          have e131 : M4 131 = M 131 := by rw [o14 131 (by unfold scrH; omega), eMt, mcp_ne (by decide)]; exact t2.off (by omega)
          have e130 : M4 130 = M 130 := by rw [o14 130 (by unfold scrH; omega), eMt, mcp_ne (by decide)]; exact t2.off (by omega)
          have hR1 := ph1_RO hRi 10 (by omega)
          have lc : (passL ns nk r [] i).length ≤ cfN (ph1 (passZ ns nk r i) 10) nk := by
            rw [cf_ext (r := passZ ns nk r i) nk (fun j _ => ph1_off (by omega) 10 (by omega))]
            exact pass_cf hR i (by omega)
          have hRn := pass_RO hR (i + 1) (by omega)
          have e4n : M4 121 = passZ ns nk r (i + 1) := e4
          have pk : ∀ (u j : Nat) (w2 w3 : Int32), j + u = ns → MS (flL nk (ph1 (passZ ns nk r i) 10) (passL ns nk r [] i) j) z G w2 w3 → l_X10_order_67 120 (fun r2 M2 => nI p = r2 ∧ INV (n + 1) M2) (l_X10_order_49 120 (fun r2 M2 => nI p = r2 ∧ INV (n + 1) M2) (nI s) (m + 1)) (nI s) (nI i) (u + 1) w2 w3 (nI j) M4 := by
            intro u
            induction u with
            | zero =>
              intro j w2 w3 hj hm2
              have : j = ns := by omega
              subst this
              show B_X10_order_67 120 _ _ _ _ _ _ _ _ _
              unfold B_X10_order_67 b_X10_order_147
              rw [show M4 (120 + 1) 3 = nI j from by rw [show M4 (120 + 1) = _ from e4n]; exact hRn.1.1]
              refine br_t (nI_le (Nat.le_refl _) (by omega)) ?_
              intro x ex
              rw [nI_1] at ex
              subst ex
              exact ih (i + 1) M4 w2 w3 (by omega) o14 e4n hm2
            | succ u ihu =>
              intro j w2 w3 hj hm2
              show B_X10_order_67 120 _ _ _ _ _ _ _ _ _
              unfold B_X10_order_67
              rw [show M4 (120 + 1) 3 = nI ns from by rw [show M4 (120 + 1) = _ from e4n]; exact hRn.1.1]
              refine br_f (nI_ge (by omega) (by omega)) ?_
              rcases hm2 with ⟨c, c1, c2, c3⟩ | ⟨c, p', d1, d2, d3, d4, d5⟩
              · subst c
                refine ⟨fun z => absurd z (by decide), fun _ => ⟨vp_in_nI (by omega) (by decide), ?_⟩⟩
                rw [nI_clamp (by omega), show M4 (120 + 8) j = _ from f4 j (by omega)]
                by_cases hx : fl2 nk (ph1 (passZ ns nk r i) 10) j < 0
                · refine br_t hx ?_
                  unfold b_X10_order_141
                  intro x ex
                  rw [nI_1] at ex
                  subst ex
                  refine ihu (j + 1) w2 1 (by omega) ?_
                  rw [fl_skip hx]
                  exact Or.inl ⟨rfl, c1, c2, c3⟩
                · refine br_f hx ⟨vp_in_nI (by omega) (by decide), ?_⟩
                  have ap := (fl_step hR1 lc j (by omega)).2 (by omega) hx
                  obtain ⟨L, eL⟩ : ∃ L, L = flL nk (ph1 (passZ ns nk r i) 10) (passL ns nk r [] i) j := ⟨_, rfl⟩
                  rw [← eL] at ap c1 c2 c3
                  have miss : ¬ (L.length < z ∧ fl2 nk (ph1 (passZ ns nk r i) 10) j = G L.length) → b_X10_order_127 120 (fun r2 M2 => nI p = r2 ∧ INV (n + 1) M2) (l_X10_order_49 120 (fun r2 M2 => nI p = r2 ∧ INV (n + 1) M2) (nI s) (m + 1)) (l_X10_order_67 120 (fun r2 M2 => nI p = r2 ∧ INV (n + 1) M2) (l_X10_order_49 120 (fun r2 M2 => nI p = r2 ∧ INV (n + 1) M2) (nI s) (m + 1)) (nI s) (nI i) (u + 1)) (nI s) (nI i) w2 (nI j) M4 := by
                    intro nm
                    unfold b_X10_order_127 b_X10_order_128 b_X10_order_139 b_X10_order_141
                    refine ⟨fun _ => ?_, fun z => absurd rfl z⟩
                    intro y ey x ex
                    rw [nI_1] at ex
                    have ey : y = w2 := by rw [ey]; simp
                    subst ex ey
                    refine ihu (j + 1) _ 0 (by omega) ?_
                    rw [ap]
                    refine Or.inr ⟨rfl, L.length, c1, by simp, c2, fun x hx => by rw [app_lt hx]; exact c3 x hx, ?_⟩
                    by_cases q : L.length = z
                    · exact Or.inl q
                    · exact Or.inr (fun w => nm ⟨by omega, by rw [app_at] at w; exact w⟩)
                  have L40 : L.length ≤ 40 := by omega
                  rw [nI_clamp (by omega), show M4 (120 + 10) = M 130 from e130, ez, c1]
                  rw [c1] at miss
                  by_cases q1 : L.length < z
                  · refine br_f (nI_ge q1 (by omega)) ?_
                    rw [show (40 : Int32) = nI 40 from rfl, pk_mul, nI_add]
                    refine ⟨vp_in_nI (by omega) (by decide), vp_in_nI (by omega) (by decide), ?_⟩
                    rw [nI_clamp (by omega), show M4 (120 + 11) = M 131 from e131]
                    have eg : M 131 (40 * s + L.length) = G L.length := by rw [eG]
                    rw [eg]
                    by_cases q2 : G L.length = fl2 nk (ph1 (passZ ns nk r i) 10) j
                    · refine ⟨fun z => absurd q2 z, fun _ => ?_⟩
                      unfold b_X10_order_128 b_X10_order_139 b_X10_order_141
                      refine ⟨fun z => absurd z (by decide), fun _ => ?_⟩
                      intro y ey x ex
                      rw [nI_1] at ex ey
                      subst ex ey
                      refine ihu (j + 1) _ 1 (by omega) ?_
                      rw [ap]
                      refine Or.inl ⟨rfl, by simp, by simp; omega, fun x hx => ?_⟩
                      simp only [List.length_append, List.length_cons, List.length_nil] at hx
                      by_cases q : x = L.length
                      · rw [q, app_at]; exact q2.symm
                      · rw [app_lt (by omega)]; exact c3 x (by omega)
                    · exact ⟨fun _ => miss (fun w => q2 w.2.symm), fun z => absurd z q2⟩
                  · exact br_t (nI_le (by omega) (by omega)) (miss (fun w => q1 w.1))
              · subst c
                refine ⟨fun _ => ?_, fun z => absurd rfl z⟩
                unfold b_X10_order_147
                intro x ex
                rw [nI_1] at ex
                subst ex
                refine ih (i + 1) M4 w2 0 (by omega) o14 e4n (Or.inr ⟨rfl, ?_⟩)
                have pr : pre (flL nk (ph1 (passZ ns nk r i) 10) (passL ns nk r [] i) j) (passL ns nk r [] (i + 1)) := by
                  have : ∀ w, pre (flL nk (ph1 (passZ ns nk r i) 10) (passL ns nk r [] i) j) (flL nk (ph1 (passZ ns nk r i) 10) (passL ns nk r [] i) (j + w)) := by
                    intro w
                    induction w with
                    | zero => exact pre.rf
                    | succ w iw => exact iw.tr pre.push
                  have t := this (ns - j)
                  rw [show j + (ns - j) = ns from by omega] at t
                  exact t
                refine ⟨p', d1, by have := pr.1; omega, d3, fun x hx => by rw [pr.2 x (by omega)]; exact d4 x hx, ?_⟩
                rcases d5 with q | q
                · exact Or.inl q
                · exact Or.inr (by rw [pr.2 p' d2]; exact q)
          exact ⟨ns + 1, pk ns 0 v2 v3 (by omega) hms⟩
      unfold wp_X10_order
      refine ⟨by decide, ?_⟩
      rw [e_mSheet]
      refine b2t h1 ⟨vp_in_nI (by omega) (by decide), ?_⟩
      rw [nI_clamp (by omega), show M2 (120 + 9) = M 129 from t2.off (by omega)]
      refine ⟨fun _ => sp_moveAll (a := 121) (d := 123) (by omega) (by omega) (by omega) ?_, fun z => absurd z g⟩
      rw [← eMt]
      exact ⟨61, pm 60 0 Mt 0 1 (by omega) only.rf et (Or.inl ⟨rfl, rfl, by simp [passL], fun j hj => by simp [passL] at hj⟩)⟩
    have pc : ∀ (m i : Nat), i + m = l.length → (∀ j, j < i → l.getD j 0 = G j) → i ≤ z → l_X9_order_57 0 (fun r M1 => wp_X10_order 120 (nI s) M1 (fun r2 M2 => r = r2 ∧ INV (n + 1) M2)) (108 + 3 * s) 83 (m + 1) (nI i) M2 := by
      intro m
      induction m with
      | zero =>
        intro i hi hp hz2
        show B_X9_order_57 0 _ _ _ _ _ _
        unfold B_X9_order_57
        rw [F1]
        exact br_t (nI_le (by omega) (by omega)) (mdl i ⟨by omega, hz2, hp, Or.inl (by omega)⟩)
      | succ m ih =>
        intro i hi hp hz2
        show B_X9_order_57 0 _ _ _ _ _ _
        unfold B_X9_order_57
        rw [F1, show M2 (108 + 3 * s + 1) 1 = nI z from by rw [show 108 + 3 * s + 1 = 109 + 3 * s from by omega]; exact es2]
        refine br_f (nI_ge (by omega) (by omega)) ?_
        by_cases q : i < z
        · refine br_f (nI_ge q (by omega)) ?_
          refine sp_get (n := l.length) (by decide) F1 (by omega) (by rw [show lnT (83 + 1) = 7 from by decide]; exact F2) (by rw [show lnT (83 + 1) = 7 from by decide]; decide) ?_
          refine sp_get (n := z) (by rw [show 108 + 3 * s + 1 = 109 + 3 * s from by omega]; exact k3) (by rw [show 108 + 3 * s + 1 = 109 + 3 * s from by omega]; exact es2) q (by rw [show 108 + 3 * s + 1 + 1 = 110 + 3 * s from by omega, l40]; exact hz) (by rw [show 108 + 3 * s + 1 + 1 = 110 + 3 * s from by omega, l40]; decide) ?_
          rw [show M2 (83 + 1) i = _ from F3 i (by omega), show 108 + 3 * s + 1 + 1 = 110 + 3 * s from by omega, ej2 i q]
          have eg : M 131 (40 * s + i) = G i := by rw [eG]
          rw [eg]
          by_cases q2 : l.getD i 0 = G i
          · refine ⟨fun z => absurd q2 z, fun _ => ?_⟩
            intro x ex
            rw [nI_1] at ex
            subst ex
            refine ih (i + 1) (by omega) (fun j hj => ?_) (by omega)
            by_cases q3 : j = i
            · rw [q3]; exact q2
            · exact hp j (by omega)
          · exact ⟨fun _ => mdl i ⟨by omega, hz2, hp, Or.inr (Or.inr q2)⟩, fun z => absurd z q2⟩
        · exact br_t (nI_le (by omega) (by omega)) (mdl i ⟨by omega, hz2, hp, Or.inr (Or.inl (by omega))⟩)
    exact ⟨l.length + 1, pc l.length 0 (by omega) (fun j hj => by omega) (by omega)⟩
  · refine b2f h1 (sp_refuse (k := 1) (by decide) (by decide) ?_)
    unfold wp_X10_order
    refine ⟨by decide, ?_⟩
    rw [e_mSheet]
    exact b2f h1 (fin_err (e := -1000000001) h (k := 1) (by decide) (by decide) rfl)
