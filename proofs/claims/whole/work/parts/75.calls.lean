/-- CHECK -/
theorem call_check {n : Nat} {M : Mem} (h : INV n M) : wp_X9_check 0 M (fun r M1 => wp_X10_check 120 M1 (fun r2 M2 => r = r2 ∧ INV (n + 1) M2)) := by
  obtain ⟨ns, nk, hr, nt, nw, hR, hh, hnt, hnw, hby⟩ := h.2.1.1
  have n7 := hR.2.1.2
  have n6 := hR.1.2
  obtain ⟨r, er⟩ : ∃ r, r = M 121 := ⟨_, rfl⟩
  rw [← er] at hR hnt hnw hby
  obtain ⟨r0, er0⟩ : ∃ r0, r0 = upd r 5 0 := ⟨_, rfl⟩
  have x0 : ∀ i, mI i → r0 i = r i := fun i hi => by rw [er0]; exact upd_off hi.2.2.1
  have hR0 : RO r0 ns nk hr := hR.ext x0
  have w33 : ∀ j, j < nw → M 34 j = r (122 + j) := fun j hj => by
    have := h.1.1.2.2.2.2 j (by rw [← er, hnw.1, tn, nI_clamp (by omega)]; exact hj)
    rw [← er] at this
    exact this
  have s33 : M 33 1 = nI nw := by
    have := h.1.1.2.2.2.1
    rw [← er, hnw.1] at this
    exact this
  obtain ⟨f, ef⟩ : ∃ f : Nat → Nat, f = fun i => cntZ ns nk r0 (i + 1) := ⟨_, rfl⟩
  have fe : ∀ i, cntZ ns nk r0 (i + 1) = f i := fun i => by rw [ef]
  unfold wp_X9_check
  refine ⟨by decide, sp_think h (fun M0 t0 m0 => ?_)⟩
  rw [← er] at m0
  have m0 : MR M0 69 r0 := m0.ext ⟨by rw [hR.tn3]; omega, by rw [hR.tn2]; omega⟩ x0
  -- the reference: up to p
  have mdl : ∀ (Mx : Mem) (p : Nat) (v3 v : Int32), TC M Mx → p ≤ nw → (∀ j, j < p → r (122 + j) = nI (f j)) → ((p = nw ∧ v3 = 1 ∧ v = 0) ∨ (p < nw ∧ ¬ r (122 + p) = nI (f p) ∧ v3 = 0 ∧ v = 1 + nI p)) → wp_X10_check 120 (mu Mx 33 1 0) (fun r2 M2 => v = r2 ∧ INV (n + 1) M2) := by
    intro Mx p v3 v tx hp hlow hend
    have e : (mu Mx 33 1 0) 121 = r := by rw [mu_ne (by decide), er]; exact tx.off (by omega)
    unfold wp_X10_check
    refine ⟨by decide, ?_⟩
    rw [show (mu Mx 33 1 0) (120 + 1) 5 = nI nw from by rw [show (mu Mx 33 1 0) (120 + 1) = r from e]; exact hnw.1]
    intro x ex M1 e1
    subst ex
    have e11 : M1 121 = r0 := by rw [e1, show (120 + 1 : Nat) = 121 from rfl, mu_same, e, er0]
    refine sp_moveAll (a := 121) (d := 123) (by omega) (by omega) (by omega) ?_
    obtain ⟨Mt, eMt⟩ : ∃ Mt, Mt = mcp M1 121 0 123 0 242 := ⟨_, rfl⟩
    have et : Mt 121 = r0 := by rw [eMt]; exact (mcp_ne (by decide)).trans e11
    rw [← eMt]
    have fin : ∀ (j : Nat) (M2 : Mem) (v2 : Int32), j ≤ nw + 1 → only scrH Mt M2 → M2 121 = passZ ns nk r0 j → (v3 = 0 → v = 1 + v2) → b_X10_check_83 120 (fun r2 M2 => v = r2 ∧ INV (n + 1) M2) v2 v3 M2 := by
      intro j M2 v2 hj o2 e2 hv
      unfold b_X10_check_83
      refine sp_moveAll (a := 123) (d := 121) (by omega) (by omega) (by omega) ?_
      rw [eMt] at o2
      obtain ⟨b1, b2⟩ := back_all o2 (fun i hi => by rw [e2, e11]; exact pass_out hR0 hi j (by omega))
      rw [e11] at b1
      have iv : INV (n + 1) (mcp M2 123 0 121 0 242) := by
        have K : ∀ b, ¬ scrQ b → mcp M2 123 0 121 0 242 b = (mu Mx 33 1 0) b := fun b hb => by
          rw [b2.1 b hb, e1, mu_ne (by intro z; apply hb; unfold scrQ; omega)]
        have KX : ∀ b, 120 ≤ b → ¬ scrQ b → mcp M2 123 0 121 0 242 b = Mx b := fun b h1 h2 => by rw [K b h2, mu_ne (by omega)]
        have ex : Mx 121 = r := by rw [er]; exact tx.off (by omega)
        refine (h.tc tx).tape (M1 := mu Mx 33 1 0) (r := r0) ?_ (fun i hi => by rw [ex]; exact x0 i hi) (by rw [ex, er0, upd_off (by decide)]) ?_ ⟨?_, fun j hj => ?_⟩ (fun b h1 h2 _ => mu_ne (by omega)) (fun b hb => K b (by unfold scrQ; omega)) ?_ b1 (fun i hi => ?_)
        · refine ⟨ns, nk, hr, nt, 0, hR0, hh, ⟨by rw [er0, upd_off (by decide)]; exact hnt.1, hnt.2⟩, ⟨by rw [er0, upd_hit]; rfl, by omega⟩, fun j hj => ?_⟩
          rw [er0, upd_off (by omega)]
          exact hby j hj
        · have t := h.1.1.2.2.1
          rw [← er] at t
          refine ⟨?_, fun j hj => ?_⟩
          · rw [mu_ne (by decide), tx.off (by omega), er0, upd_off (by decide)]; exact t.1
          · rw [er0, upd_off (by decide)] at hj
            rw [mu_ne (by decide), tx.off (by omega)]
            dsimp only
            rw [er0, upd_off (by omega)]; exact t.2 j hj
        · rw [mu_hit, er0, upd_hit]
        · rw [er0, upd_hit] at hj
          exact absurd hj (by show ¬ j < tn (nI 0); rw [tn, nI_clamp (by omega)]; omega)
        · refine ⟨by simp, ?_, ?_, ?_, ?_, ?_, ?_, ?_, ?_, ?_⟩
          all_goals (simp; rw [KX _ (by decide) (by unfold scrQ; omega)])
        · rw [b2.2 i hi, e1, mu_ne (by decide), mu_ne (by decide)]; exact ((h.tc tx).2.2 i hi).2.2
      rcases hend with ⟨-, q, qv⟩ | ⟨-, -, q, qv⟩
      · rw [q]; exact ⟨fun z => absurd z (by decide), fun _ => ⟨qv, iv⟩⟩
      · rw [q]; exact ⟨fun _ => ⟨hv q, iv⟩, fun z => absurd rfl z⟩
    -- the last look
    have pm : ∀ (m i : Nat) (M2 : Mem), i + m = p → only scrH Mt M2 → M2 121 = passZ ns nk r0 i → l_X10_check_30 120 (fun r2 M2 => v = r2 ∧ INV (n + 1) M2) (nI nw) (m + 2) (nI i) 1 M2 := by
      intro m
      induction m with
      | zero =>
        intro i M2 hi o2 e2
        have : i = p := by omega
        subst this
        show B_X10_check_30 120 _ _ _ _ _ _
        unfold B_X10_check_30
        rcases hend with ⟨q, q3, qv⟩ | ⟨q, q2, q3, qv⟩
        · refine br_t (nI_le (by omega) (by omega)) ?_
          rw [← q3]
          exact fin i M2 _ (by omega) o2 e2 (fun z => absurd (q3.symm.trans z) (by decide))
        · refine br_f (nI_ge q (by omega)) ⟨fun z => absurd z (by decide), fun _ => ?_⟩
          refine sp_mHour (by rw [e2]; exact pass_RO hR0 i (by omega)) (fun M3 e3 _ o3 => ?_)
          rw [e2] at e3
          have e3 : M3 121 = passZ ns nk r0 (i + 1) := e3
          have hRn := pass_RO hR0 (i + 1) (by omega)
          refine sp_mFound (by rw [e3]; exact hRn) ?_
          rw [e3]
          refine sp_mcnt hR0 (by omega) ?_
          rw [fe, show (122 : Int32) = nI 122 from rfl, nI_add]
          refine ⟨vp_in_nI (by omega) (by decide), ?_⟩
          rw [nI_clamp (by omega), show M3 (120 + 1) = _ from e3, pass_low hR0 (by omega) (by omega) (i + 1) (by omega), er0, upd_off (by omega)]
          refine ⟨fun _ => ?_, fun z => absurd z.symm q2⟩
          unfold b_X10_check_67 b_X10_check_78
          refine ⟨fun _ => ?_, fun z => absurd rfl z⟩
          intro y ey
          have ey : y = nI i := by rw [ey]; simp
          subst ey
          show B_X10_check_30 120 _ _ _ _ _ _
          unfold B_X10_check_30
          refine br_f (nI_ge q (by omega)) ⟨fun _ => ?_, fun z => absurd rfl z⟩
          rw [← q3]
          exact fin (i + 1) M3 _ (by omega) (o2.tr o3) e3 (fun _ => qv)
      | succ m ih =>
        intro i M2 hi o2 e2
        show B_X10_check_30 120 _ _ _ _ _ _
        unfold B_X10_check_30
        refine br_f (nI_ge (by omega) (by omega)) ⟨fun z => absurd z (by decide), fun _ => ?_⟩
        refine sp_mHour (by rw [e2]; exact pass_RO hR0 i (by omega)) (fun M3 e3 _ o3 => ?_)
        rw [e2] at e3
        have e3 : M3 121 = passZ ns nk r0 (i + 1) := e3
        have hRn := pass_RO hR0 (i + 1) (by omega)
        refine sp_mFound (by rw [e3]; exact hRn) ?_
        rw [e3]
        refine sp_mcnt hR0 (by omega) ?_
        rw [fe, show (122 : Int32) = nI 122 from rfl, nI_add]
        refine ⟨vp_in_nI (by omega) (by decide), ?_⟩
        rw [nI_clamp (by omega), show M3 (120 + 1) = _ from e3, pass_low hR0 (by omega) (by omega) (i + 1) (by omega), er0, upd_off (by omega)]
        refine ⟨fun z => absurd (hlow i (by omega)).symm z, fun _ => ?_⟩
        unfold b_X10_check_67 b_X10_check_78
        refine ⟨fun z => absurd z (by decide), fun _ => ?_⟩
        intro y ey
        rw [nI_1] at ey
        subst ey
        exact ih (i + 1) M3 (by omega) (o2.tr o3) e3
    exact ⟨p + 2, pm p 0 Mt (by omega) only.rf et⟩
  have fin : ∀ (Mx : Mem) (v : Int32), wp_X10_check 120 (mu Mx 33 1 0) (fun r2 M2 => v = r2 ∧ INV (n + 1) M2) → b_X9_check_68 0 (fun r M1 => wp_X10_check 120 M1 (fun r2 M2 => r = r2 ∧ INV (n + 1) M2)) v Mx := by
    intro Mx v hx
    unfold b_X9_check_68
    exact sp_clear (h := 33) (by decide) hx
  have pc : ∀ (m i : Nat) (Mx : Mem), i + m = nw → TC M Mx → MR Mx 69 (passZ ns nk r0 i) → (∀ j, j < i → r (122 + j) = nI (f j)) → l_X9_check_8 0 (fun r M1 => wp_X10_check 120 M1 (fun r2 M2 => r = r2 ∧ INV (n + 1) M2)) (m + 2) 0 (nI i) Mx := by
    intro m
    induction m with
    | zero =>
      intro i Mx hi tx mx hlow
      have : i = nw := by omega
      subst this
      show B_X9_check_8 0 _ _ _ _ _
      unfold B_X9_check_8
      rw [show Mx (0 + 1 + 32) 1 = nI i from (congrFun (tx.off (by omega)) 1).trans s33]
      exact br_t (nI_le (Nat.le_refl _) (by omega)) (fin Mx 0 (mdl Mx i 1 0 tx (by omega) hlow (Or.inl ⟨rfl, rfl, rfl⟩)))
    | succ m ih =>
      intro i Mx hi tx mx hlow
      show B_X9_check_8 0 _ _ _ _ _
      unfold B_X9_check_8
      rw [show Mx (0 + 1 + 32) 1 = nI nw from (congrFun (tx.off (by omega)) 1).trans s33]
      refine br_f (nI_ge (by omega) (by omega)) ⟨fun z => absurd rfl z, fun _ => ?_⟩
      refine sp_passHours (o := 69) (n := 1) (by decide) mx (pass_RO hR0 i (by omega)) (by omega) (fun M2 m2 _ o2 => ?_)
      have m2 : MR M2 69 (passZ ns nk r0 (i + 1)) := m2
      have t2 := tx.tr (TC.of o2 m2)
      refine sp_get (h := 33) (n := nw) (by decide) ((congrFun (t2.off (by omega)) 1).trans s33) (by omega) (by rw [show lnT (33 + 1) = 20 from by decide]; exact hnw.2) (by rw [show lnT (33 + 1) = 20 from by decide]; decide) ?_
      refine sp_foundSet (o := 69) (by decide) m2 (pass_RO hR0 (i + 1) (by omega)) ?_
      refine sp_cnt hR0 (by omega) ?_
      rw [fe, show M2 (33 + 1) i = r (122 + i) from (congrFun (t2.off (by omega)) i).trans (w33 i (by omega))]
      unfold b_X9_check_62
      by_cases q : r (122 + i) = nI (f i)
      · refine ⟨fun _ => ?_, fun z => absurd q z⟩
        intro x ex
        rw [nI_1] at ex
        subst ex
        refine ih (i + 1) M2 (by omega) t2 m2 (fun j hj => ?_)
        by_cases u : j = i
        · rw [u]; exact q
        · exact hlow j (by omega)
      · refine ⟨fun z => absurd z q, fun _ => ?_⟩
        intro y ey x ex
        rw [nI_1] at ex
        subst ex ey
        have nz : ¬ (1 : Int32) + nI i = 0 := fun z => by
          rw [show (1 : Int32) = nI 1 from rfl, nI_add, show (0 : Int32) = nI 0 from rfl, nI_eq (by omega) (by decide)] at z
          omega
        show B_X9_check_8 0 _ _ _ _ _
        unfold B_X9_check_8
        have g := fin M2 (1 + nI i) (mdl M2 i 0 (1 + nI i) t2 (by omega) hlow (Or.inr ⟨by omega, q, rfl, rfl⟩))
        exact ⟨fun _ => g, fun _ => ⟨fun _ => g, fun z => absurd z nz⟩⟩
  exact ⟨nw + 2, pc nw 0 M0 (by omega) t0 m0 (fun j hj => by omega)⟩
