section
variable {u en : Nat} {B : Nat → Int32}
theorem lev_all {o d d' e : Nat} (he : en ≤ 50) (fac : PR u en B o (fun M Q => wp_X2_readFactor (d + 8 * e + 2) 98 (nI o) M Q) (fun M Q => wp_X10_factor (d' + 6 * e + 1) 120 M Q)) : PR u en B o (fun M Q => wp_X2_readLevel (d + 8 * e + 8) 98 (nI 0) (nI o) M Q) (fun M Q => wp_X10_whole (d' + 6 * e + 6) 120 M Q) :=
  lev0 he (lev1 he (lev2 he (lev3 he (lev4 he (lev5 fac)))))
theorem encNm : ∀ i, i < 3 → enc (10000 + nI i) = (-1) - nI i ∧ (10000 + nI i) = nI (10000 + i) ∧ ¬ nI i < 0 := by decide
theorem encNu {v : Nat} (h : v < 10000) : enc (nI v) = nI v := by
  unfold enc
  exact if_pos (show nI v < 10000 from nI_lt (b := 10000) h (by decide))
theorem nm_is (u : Nat) (s : Int32) : nmZ u s = -1 ∨ ∃ i, i < 3 ∧ nmZ u s = nI i := by
  unfold nmZ
  split
  · exact Or.inr ⟨0, by omega, rfl⟩
  · split
    · exact Or.inr ⟨1, by omega, rfl⟩
    · split
      · exact Or.inr ⟨2, by omega, rfl⟩
      · exact Or.inl rfl
theorem nm_no : ∀ u, u < 2 → nmZ u 33 = -1 ∧ nmZ u 40 = -1 ∧ nmZ u (-1) = -1 := by decide
theorem m1n (i : Nat) (h : i < 3) : ¬ (-1 : Int32) = nI i := (show ∀ i, i < 3 → ¬ (-1 : Int32) = nI i by decide) i h
theorem m_named0 {p o : Nat} {c : List Int32} {s : Int32} {M : Mem} {Q : Mem → Prop} (hu : u < 2) (h : MX u en B p c 1 o M) (nm : nmZ u s = -1) (h0 : ∀ M', MX u en B p c 0 o M' → OX M M' → Q M') : wp_X10_named 120 s M Q := by
  have no : ∀ v2 v3, b_X10_named_92 120 Q v2 v3 120 0 M := by
    intro v2 v3
    unfold b_X10_named_92
    refine ⟨by unfold isb; decide, ?_⟩
    intro M1 e1
    have m1 : MX u en B p c 0 o M1 := by rw [e1]; exact h.good
    rw [m1.2.1.2.2]
    exact ⟨fun _ => h0 M1 m1 (by rw [e1]; exact OX.mu (by omega)), fun z => absurd rfl z⟩
  have q : ¬ NA (3 * u + 0) = s ∧ ¬ NA (3 * u + 1) = s ∧ ¬ NA (3 * u + 2) = s := by
    refine ⟨fun z => ?_, fun z => ?_, fun z => ?_⟩
    · unfold nmZ at nm; rw [if_pos z] at nm; exact absurd nm (by decide)
    · by_cases z0 : NA (3 * u + 0) = s
      · unfold nmZ at nm; rw [if_pos z0] at nm; exact absurd nm (by decide)
      · unfold nmZ at nm; rw [if_neg z0, if_pos z] at nm; exact absurd nm (by decide)
    · by_cases z0 : NA (3 * u + 0) = s
      · unfold nmZ at nm; rw [if_pos z0] at nm; exact absurd nm (by decide)
      · by_cases z1 : NA (3 * u + 1) = s
        · unfold nmZ at nm; rw [if_neg z0, if_pos z1] at nm; exact absurd nm (by decide)
        · unfold nmZ at nm; rw [if_neg z0, if_neg z1, if_pos z] at nm; exact absurd nm (by decide)
  have e71 : b_X10_named_71 120 Q 0 0 0 M := by
    unfold b_X10_named_71
    exact ⟨fun z => absurd rfl z, fun _ => ⟨fun z => absurd rfl z, fun _ => ⟨fun _ => no _ _, fun z => absurd rfl z⟩⟩⟩
  have hu2 : u = 0 ∨ u = 1 := by omega
  unfold wp_X10_named b_X10_named_15 b_X10_named_23 b_X10_named_39 b_X10_named_47 b_X10_named_63
  refine ⟨by decide, ?_⟩
  rw [h.1.1]
  rcases hu2 with rfl | rfl
  · exact ⟨fun z => absurd rfl z, fun _ => ⟨fun _ => ⟨fun z => absurd rfl z, fun _ => ⟨fun _ => ⟨fun z => absurd rfl z, fun _ => ⟨fun _ => e71, fun z => absurd z.symm q.2.2⟩⟩, fun z => absurd z.symm q.2.1⟩⟩, fun z => absurd z.symm q.1⟩⟩
  · exact ⟨fun _ => ⟨fun _ => ⟨fun _ => ⟨fun _ => ⟨fun _ => ⟨fun _ => e71, fun z => absurd z.symm q.2.2⟩, fun z => absurd z (by decide)⟩, fun z => absurd z.symm q.2.1⟩, fun z => absurd z (by decide)⟩, fun z => absurd z.symm q.1⟩, fun z => absurd z (by decide)⟩
theorem fac_step {o f g : Nat} (hu : u < 2) (he : en ≤ 50) (ho : o ≤ 5) (r1 : o < 5 → PR u en B (o + 1) (fun M Q => wp_X2_readFactor f 98 (nI (o + 1)) M Q) (fun M Q => wp_X10_factor g 120 M Q)) (r2 : o < 5 → PR u en B (o + 1) (fun M Q => wp_X2_readLevel f 98 (nI 0) (nI (o + 1)) M Q) (fun M Q => wp_X10_whole g 120 M Q)) :
    PR u en B o (fun M Q => wp_X2_readFactor (f + 2) 98 (nI o) M Q) (fun M Q => wp_X10_factor (g + 1) 120 M Q) := by
  intro p c dd hp hc hw
  obtain ⟨s, es⟩ : ∃ s, s = bAt en B p := ⟨_, rfl⟩
  by_cases dg : zin s 48 57
  · obtain ⟨p', v', h1, h2, h3, h4, h5⟩ := num_run (u := u) (B := B) he 4 0 p 0 (by omega) hp (by decide)
    have pl : p < p' := h3 (by omega) (by rw [← es]; exact dg)
    refine ⟨1, p', c ++ [nI v'], Or.inr rfl, h1, fun _ => ⟨pl, by simp; omega, hw.num (by omega)⟩, fun M Q hM hQ => ?_, fun M Q hM hQ => ?_⟩
    · dsimp only
      rw [rF]
      unfold wb_X2_readFactor
      refine ⟨by decide, c_next hM he hp ?_⟩
      rw [← es, e_isDigit]
      refine b1t dg ?_
      unfold wp_X2_readNumber
      refine ⟨by decide, 5, h4 c M _ hM (fun M1 m1 o1 => ?_)⟩
      unfold b_X2_readNumber_48
      have := c_app (x := nI v') (Q := fun r_2 M_1 => Q 1 M_1) m1 (by omega) (fun M2 m2 o2 => hQ M2 m2 (o1.tr o2))
      rw [encNu h2] at this
      exact this
    · rw [tF]
      unfold wb_X10_factor
      refine ⟨by decide, m_byte hM he hp ?_⟩
      rw [← es, e_mDigit]
      refine b1t dg ?_
      unfold wp_X10_number
      refine ⟨by decide, 5, h5 c o M _ hM (fun M1 m1 o1 => ?_)⟩
      unfold b_X10_number_56
      exact m_adds m1 (by omega) (fun M2 m2 o2 => hQ M2 m2 (o1.tr o2))
  · rcases nm_is u s with nm | ⟨i, hi, nm⟩
    · by_cases sg : (s = 33 ∨ s = 40) ∧ o < 5
      · obtain ⟨sg, o5⟩ := sg
        have hpe : p < en := by
          by_cases w : p < en
          · exact w
          · unfold bAt at es
            rw [if_neg w] at es
            rcases sg with q | q
            · rw [es] at q; exact absurd q (by decide)
            · rw [es] at q; exact absurd q (by decide)
        have o5' : nI o < 5 := nI_lt (b := 5) o5 (by decide)
        have o5'' : ¬ nI o = 5 := fun z => by have := (nI_eq (a := o) (b := 5) (by omega) (by decide)).mp z; omega
        -- the class, as far as the sign
        have cl : ∀ (M : Mem) (Q : Int32 → Mem → Prop), CS u en B p c M → ((s = 33 → wp_X2_readDenied (f + 1) 98 (nI (o + 1)) (mu M 98 3 ((M 98 3) + 1)) (fun r_8 M_7 => isb r_8 ∧ Q r_8 M_7)) ∧ (¬ s = 33 → wp_X2_readEnclosed (f + 1) 98 (nI (o + 1)) (mu M 98 3 ((M 98 3) + 1)) (fun r_5 M_4 => isb r_5 ∧ Q r_5 M_4))) → wp_X2_readFactor (f + 2) 98 (nI o) M Q := by
          intro M Q hM h
          rw [rF]
          unfold wb_X2_readFactor
          refine ⟨by decide, c_next hM he hp ?_⟩
          rw [← es, e_isDigit]
          refine b1f dg (c_name hu hM.1.1 ?_)
          rw [nm]
          have g : b_X2_readFactor_63 (wp_X2_readLevel (f + 1)) (wp_X2_readFactor (f + 1)) (wp_X2_readDenied (f + 1)) (wp_X2_readEnclosed (f + 1)) 98 Q (nI o) s M := by
            unfold b_X2_readFactor_63
            refine br_t o5' ?_
            intro M1 e1
            subst e1
            rw [nI_1]
            exact ⟨h.2, h.1⟩
          refine br_t m1neg ⟨fun _ => g, fun z => ⟨fun z2 => ?_, fun _ => g⟩⟩
          rcases sg with q | q
          · exact absurd q z
          · exact absurd q z2
        have ml : ∀ (M : Mem) (Q : Mem → Prop), MX u en B p c 1 o M → (∀ M2, MX u en B (p + 1) c 1 (o + 1) M2 → OX M M2 → (¬ s = 33 → wp_X10_whole g 120 M2 (fun M_10 => ((M_10 120 11) = 0 → b_X10_factor_128 (wp_X10_factor g) (wp_X10_product g) (wp_X10_sum g) (wp_X10_compared g) (wp_X10_both g) (wp_X10_whole g) 120 Q 120 M_10) ∧ (¬ (M_10 120 11) = 0 → wp_X10_byteAt 120 (M_10 120 7) M_10 (fun r_13 M_12 => (¬ r_13 = 41 → b_X10_factor_128 (wp_X10_factor g) (wp_X10_product g) (wp_X10_sum g) (wp_X10_compared g) (wp_X10_both g) (wp_X10_whole g) 120 Q 120 M_12) ∧ (r_13 = 41 → b_X10_factor_129 (wp_X10_factor g) (wp_X10_product g) (wp_X10_sum g) (wp_X10_compared g) (wp_X10_both g) (wp_X10_whole g) 120 Q 120 1 M_12))))) ∧ (s = 33 → wp_X10_factor g 120 M2 (fun M_15 => wp_X10_adds 120 20033 M_15 (fun M_16 => b_X10_factor_153 (wp_X10_factor g) (wp_X10_product g) (wp_X10_sum g) (wp_X10_compared g) (wp_X10_both g) (wp_X10_whole g) 120 Q M_16)))) → wp_X10_factor (g + 1) 120 M Q := by
          intro M Q hM h
          rw [tF]
          unfold wb_X10_factor
          refine ⟨by decide, m_byte hM he hp ?_⟩
          rw [← es, e_mDigit]
          refine b1f dg ?_
          have gg : b_X10_factor_43 (wp_X10_factor g) (wp_X10_product g) (wp_X10_sum g) (wp_X10_compared g) (wp_X10_both g) (wp_X10_whole g) 120 Q s M := by
            unfold b_X10_factor_43
            rw [hM.2.1.2.1]
            refine ⟨fun _ => ?_, fun z => absurd z o5''⟩
            intro M1 e1
            rw [nI_1] at e1
            have m1 : MX u en B p c 1 (o + 1) M1 := by rw [e1]; exact hM.opn
            intro M2 e2
            subst e2
            exact h _ m1.go ((by rw [e1]; exact OX.mu (by omega) : OX M M1).tr (OX.mu (by omega)))
          refine ⟨fun _ => gg, fun z => ⟨fun _ => gg, fun z2 => ?_⟩⟩
          rcases sg with q | q
          · exact absurd q z
          · exact absurd q z2
        have shut : ∀ (M : Mem) (Q : Mem → Prop) (p' : Nat) (c' : List Int32) (ok : Int32), MX u en B p' c' ok (o + 1) M → (∀ M', MX u en B p' c' ok o M' → OX M M' → Q M') → b_X10_factor_153 (wp_X10_factor g) (wp_X10_product g) (wp_X10_sum g) (wp_X10_compared g) (wp_X10_both g) (wp_X10_whole g) 120 Q M := by
          intro M Q p' c' ok hM hQ
          unfold b_X10_factor_153
          rw [hM.2.1.2.1, nI_pred]
          intro M1 e1
          subst e1
          exact hQ _ hM.opn (OX.mu (by omega))
        by_cases s33 : s = 33
        · obtain ⟨ok1, p1, c1, h1, h2, h3, h4, h5⟩ := r1 o5 (p + 1) c dd (by omega) (by omega) hw
          rcases h1 with rfl | rfl
          · refine ⟨0, p1, c1, Or.inl rfl, ⟨by omega, h2.2⟩, fun z => absurd z (by decide), fun M Q hM hQ => cl M Q hM ⟨fun _ => ?_, fun z => absurd s33 z⟩, fun M Q hM hQ => ml M Q hM (fun M2 m2 o2 => ⟨fun z => absurd s33 z, fun _ => h5 _ _ m2 (fun M3 m3 o3 => m_adds0 m3 (shut M3 Q p1 c1 0 m3 (fun M4 m4 o4 => hQ M4 m4 ((o2.tr o3).tr o4))))⟩)⟩
            rw [rD]
            unfold wb_X2_readDenied
            exact ⟨by decide, h4 _ _ hM.go (fun M1 m1 o1 => ⟨fun z => absurd rfl z, fun _ => ⟨by unfold isb; decide, hQ M1 m1 (c_go.tr o1)⟩⟩)⟩
          · obtain ⟨a1, a2, a3⟩ := h3 rfl
            refine ⟨1, p1, c1 ++ [20033], Or.inr rfl, ⟨by omega, h2.2⟩, fun _ => ⟨by omega, by simp; omega, a3.neg⟩, fun M Q hM hQ => cl M Q hM ⟨fun _ => ?_, fun z => absurd s33 z⟩, fun M Q hM hQ => ml M Q hM (fun M2 m2 o2 => ⟨fun z => absurd s33 z, fun _ => h5 _ _ m2 (fun M3 m3 o3 => m_adds m3 (by omega) (fun M4 m4 o4 => shut M4 Q p1 _ 1 m4 (fun M5 m5 o5 => hQ M5 m5 (((o2.tr o3).tr o4).tr o5))))⟩)⟩
            rw [rD]
            unfold wb_X2_readDenied
            refine ⟨by decide, h4 _ _ hM.go (fun M1 m1 o1 => ⟨fun _ => ?_, fun z => absurd z (by decide)⟩)⟩
            have := c_app (x := 20033) (Q := fun r_5 M_4 => isb 1 ∧ Q 1 M_4) m1 (by omega) (fun M2 m2 o2 => ⟨by unfold isb; decide, hQ M2 m2 ((c_go.tr o1).tr o2)⟩)
            rw [show enc 20033 = -33 from by decide] at this
            exact this
        · obtain ⟨ok1, p1, c1, h1, h2, h3, h4, h5⟩ := r2 o5 (p + 1) c dd (by omega) (by omega) hw
          have no : ∀ (M : Mem) (Q : Mem → Prop) (g0 : Int32), MX u en B p1 c1 g0 (o + 1) M → (∀ M', MX u en B p1 c1 0 o M' → OX M M' → Q M') → b_X10_factor_128 (wp_X10_factor g) (wp_X10_product g) (wp_X10_sum g) (wp_X10_compared g) (wp_X10_both g) (wp_X10_whole g) 120 Q 120 M := by
            intro M Q g0 hM hQ
            unfold b_X10_factor_128 b_X10_factor_129 b_X10_factor_149
            refine ⟨by unfold isb; decide, ?_⟩
            intro M1 e1
            have m1 : MX u en B p1 c1 0 (o + 1) M1 := by rw [e1]; exact hM.good
            rw [m1.2.1.2.2]
            refine ⟨fun _ => ?_, fun z => absurd rfl z⟩
            intro M2 e2
            have m2 : MX u en B p1 c1 0 (o + 1) M2 := by
              have : M2 = mu M1 120 7 (M1 120 7) := by rw [e2]; simp
              rw [this]
              have z : mu M1 120 7 (M1 120 7) = M1 := by
                funext b j
                simp only [mu]
                by_cases hb : b = 120 ∧ j = 7
                · rw [if_pos hb, hb.1, hb.2]
                · rw [if_neg hb]
              rw [z]
              exact m1
            have o2 : OX M M2 := ((by rw [e1]; exact OX.mu (by omega) : OX M M1).tr (by rw [e2]; exact OX.mu (by omega)))
            exact shut M2 Q p1 c1 0 m2 (fun M3 m3 o3 => hQ M3 m3 (o2.tr o3))
          rcases h1 with rfl | rfl
          · refine ⟨0, p1, c1, Or.inl rfl, ⟨by omega, h2.2⟩, fun z => absurd z (by decide), fun M Q hM hQ => cl M Q hM ⟨fun z => absurd z s33, fun _ => ?_⟩, fun M Q hM hQ => ml M Q hM (fun M2 m2 o2 => ⟨fun _ => h5 _ _ m2 (fun M3 m3 o3 => ?_), fun z => absurd z s33⟩)⟩
            · rw [rE]
              unfold wb_X2_readEnclosed
              exact ⟨by decide, h4 _ _ hM.go (fun M1 m1 o1 => ⟨fun _ => ⟨by unfold isb; decide, hQ M1 m1 (c_go.tr o1)⟩, fun z => absurd rfl z⟩)⟩
            · rw [m3.2.1.2.2]
              exact ⟨fun _ => no M3 Q 0 m3 (fun M4 m4 o4 => hQ M4 m4 ((o2.tr o3).tr o4)), fun z => absurd rfl z⟩
          · obtain ⟨a1, a2, a3⟩ := h3 rfl
            by_cases e41 : bAt en B p1 = 41
            · have hp1 : p1 < en := by
                by_cases w : p1 < en
                · exact w
                · unfold bAt at e41
                  rw [if_neg w] at e41
                  exact absurd e41 (by decide)
              refine ⟨1, p1 + 1, c1, Or.inr rfl, ⟨by omega, by omega⟩, fun _ => ⟨by omega, by omega, a3⟩, fun M Q hM hQ => cl M Q hM ⟨fun z => absurd z s33, fun _ => ?_⟩, fun M Q hM hQ => ml M Q hM (fun M2 m2 o2 => ⟨fun _ => h5 _ _ m2 (fun M3 m3 o3 => ?_), fun z => absurd z s33⟩)⟩
              · rw [rE]
                unfold wb_X2_readEnclosed
                refine ⟨by decide, h4 _ _ hM.go (fun M1 m1 o1 => ⟨fun z => absurd z (by decide), fun _ => c_next m1 he (by omega) ⟨fun _ => ?_, fun z => absurd e41 z⟩⟩)⟩
                intro M2 e2
                subst e2
                exact ⟨by unfold isb; decide, hQ _ m1.go ((c_go.tr o1).tr c_go)⟩
              · rw [m3.2.1.2.2]
                refine ⟨fun z => absurd z (by decide), fun _ => m_byte m3 he (by omega) ⟨fun z => absurd e41 z, fun _ => ?_⟩⟩
                unfold b_X10_factor_129 b_X10_factor_149
                refine ⟨by unfold isb; decide, ?_⟩
                intro M4 e4
                have m4 : MX u en B p1 c1 1 (o + 1) M4 := by rw [e4]; exact m3.good
                rw [m4.2.1.2.2]
                refine ⟨fun z => absurd z (by decide), fun _ => ?_⟩
                intro M5 e5
                subst e5
                exact shut _ Q (p1 + 1) c1 1 m4.go (fun M6 m6 o6 => hQ M6 m6 (((o2.tr o3).tr ((by rw [e4]; exact OX.mu (by omega) : OX M3 M4).tr (OX.mu (by omega)))).tr o6))
            · refine ⟨0, p1, c1, Or.inl rfl, ⟨by omega, h2.2⟩, fun z => absurd z (by decide), fun M Q hM hQ => cl M Q hM ⟨fun z => absurd z s33, fun _ => ?_⟩, fun M Q hM hQ => ml M Q hM (fun M2 m2 o2 => ⟨fun _ => h5 _ _ m2 (fun M3 m3 o3 => ?_), fun z => absurd z s33⟩)⟩
              · rw [rE]
                unfold wb_X2_readEnclosed
                exact ⟨by decide, h4 _ _ hM.go (fun M1 m1 o1 => ⟨fun z => absurd z (by decide), fun _ => c_next m1 he (by omega) ⟨fun z => absurd z e41, fun _ => ⟨by unfold isb; decide, hQ M1 m1 (c_go.tr o1)⟩⟩⟩)⟩
              · rw [m3.2.1.2.2]
                exact ⟨fun z => absurd z (by decide), fun _ => m_byte m3 he (by omega) ⟨fun _ => no M3 Q 1 m3 (fun M4 m4 o4 => hQ M4 m4 ((o2.tr o3).tr o4)), fun z => absurd z e41⟩⟩
      · -- no factor begins so
        refine ⟨0, p, c, Or.inl rfl, ⟨Nat.le_refl _, hp⟩, fun z => absurd z (by decide), fun M Q hM hQ => ?_, fun M Q hM hQ => ?_⟩
        · dsimp only
          rw [rF]
          unfold wb_X2_readFactor
          refine ⟨by decide, c_next hM he hp ?_⟩
          rw [← es, e_isDigit]
          refine b1f dg (c_name hu hM.1.1 ?_)
          rw [nm]
          have g := hQ M hM only.rf
          have c6 : (s = 33 ∨ s = 40) → b_X2_readFactor_63 (wp_X2_readLevel (f + 1)) (wp_X2_readFactor (f + 1)) (wp_X2_readDenied (f + 1)) (wp_X2_readEnclosed (f + 1)) 98 Q (nI o) s M := by
            intro w
            unfold b_X2_readFactor_63
            exact br_f (fun z => sg ⟨w, by rw [show (5 : Int32) = nI 5 from rfl, i_lt, nI_toInt (by omega), nI_toInt (by omega)] at z; omega⟩) g
          exact ⟨fun _ => ⟨fun z => c6 (Or.inl z), fun _ => ⟨fun _ => g, fun z => c6 (Or.inr z)⟩⟩, fun z => absurd m1neg z⟩
        · rw [tF]
          unfold wb_X10_factor
          refine ⟨by decide, m_byte hM he hp ?_⟩
          rw [← es, e_mDigit]
          refine b1f dg ?_
          have c5 : (s = 33 ∨ s = 40) → b_X10_factor_43 (wp_X10_factor g) (wp_X10_product g) (wp_X10_sum g) (wp_X10_compared g) (wp_X10_both g) (wp_X10_whole g) 120 Q s M := by
            intro w
            have : o = 5 := by
              have : ¬ o < 5 := fun z => sg ⟨w, z⟩
              omega
            subst this
            unfold b_X10_factor_43
            rw [hM.2.1.2.1]
            refine ⟨fun z => absurd rfl z, fun _ => ?_⟩
            intro M1 e1
            subst e1
            exact hQ _ hM.good (OX.mu (by omega))
          exact ⟨fun z => c5 (Or.inl z), fun _ => ⟨fun z => c5 (Or.inr z), fun _ => m_named0 hu hM nm (fun M1 m1 o1 => hQ M1 m1 o1)⟩⟩
    · have hpe : p < en := by
        by_cases w : p < en
        · exact w
        · unfold bAt at es
          rw [if_neg w] at es
          rw [es, (nm_no u hu).2.2] at nm
          exact absurd nm (m1n i hi)
      refine ⟨1, p + 1, c ++ [10000 + nI i], Or.inr rfl, ⟨by omega, by omega⟩, fun _ => ⟨by omega, by simp; omega, by rw [(encNm i hi).2.1]; exact hw.num (by omega)⟩, fun M Q hM hQ => ?_, fun M Q hM hQ => ?_⟩
      · dsimp only
        rw [rF]
        unfold wb_X2_readFactor
        refine ⟨by decide, c_next hM he hp ?_⟩
        rw [← es, e_isDigit]
        refine b1f dg (c_name hu hM.1.1 ?_)
        rw [nm]
        refine br_f (encNm i hi).2.2 ?_
        intro M1 e1
        subst e1
        rw [← (encNm i hi).1]
        exact c_app hM.go (by omega) (fun M2 m2 o2 => hQ M2 m2 (c_go.tr o2))
      · rw [tF]
        unfold wb_X10_factor
        refine ⟨by decide, m_byte hM he hp ?_⟩
        rw [← es, e_mDigit]
        refine b1f dg ⟨fun z => ?_, fun _ => ⟨fun z => ?_, fun _ => m_named hu hM (by omega) (fun z => absurd (z.symm.trans nm) (m1n i hi)) (fun j hj z M1 m1 o1 => ?_)⟩⟩
        · rw [z, (nm_no u hu).1] at nm; exact absurd nm (m1n i hi)
        · rw [z, (nm_no u hu).2.1] at nm; exact absurd nm (m1n i hi)
        · have : i = j := (nI_eq (by omega) (by omega)).mp (nm.symm.trans z)
          subst this
          exact hQ M1 m1 o1
theorem fac_all (hu : u < 2) (he : en ≤ 50) : ∀ (e o : Nat), o + e = 5 → ∀ d d', PR u en B o (fun M Q => wp_X2_readFactor (d + 8 * e + 2) 98 (nI o) M Q) (fun M Q => wp_X10_factor (d' + 6 * e + 1) 120 M Q) := by
  intro e
  induction e with
  | zero =>
    intro o ho d d'
    exact fac_step hu he (by omega) (fun z => by omega) (fun z => by omega)
  | succ e ih =>
    intro o ho d d'
    have a := ih (o + 1) (by omega) (d + 6) (d' + 5)
    have b := lev_all he (ih (o + 1) (by omega) d d')
    rw [show d + 6 + 8 * e + 2 = d + 8 * e + 8 from by omega, show d' + 5 + 6 * e + 1 = d' + 6 * e + 6 from by omega] at a
    have := fac_step (u := u) (B := B) (o := o) hu he (by omega) (fun _ => a) (fun _ => b)
    rw [show d + 8 * (e + 1) + 2 = d + 8 * e + 8 + 2 from by omega, show d' + 6 * (e + 1) + 1 = d' + 6 * e + 6 + 1 from by omega]
    exact this
theorem read_all (hu : u < 2) (he : en ≤ 50) : PR u en B 0 (fun M Q => wp_X2_readLevel 60 98 (nI 0) (nI 0) M Q) (fun M Q => wp_X10_whole 60 120 M Q) := lev_all (d := 12) (d' := 24) (e := 5) he (fac_all hu he 5 0 (by omega) 12 24)
end
