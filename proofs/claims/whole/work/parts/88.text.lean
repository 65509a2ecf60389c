theorem wf_ext {g g' : Nat → Int32} {n : Nat} (h : wfZ g n) (e : ∀ j, j < n → g' j = g j) : wfZ g' n := by
  have ed : ∀ j, j ≤ n → depZ g' j = depZ g j := fun j hj => dep_ext j (fun i hi => e i (by omega))
  exact ⟨fun j hj => by rw [e j hj, ed j (by omega)]; exact h.1 j hj, by rw [ed n (Nat.le_refl _)]; exact h.2⟩
theorem code_ext {sz : Int32} {g g' : Nat → Int32} (h : codeOK sz g) (e : ∀ j, j < 50 → g' j = g j) : codeOK sz g' := by
  rcases h with h | ⟨n, h1, h2, h3, h4⟩
  · exact Or.inl h
  · exact Or.inr ⟨n, h1, h2, h3, wf_ext h4 (fun j hj => e j (by omega))⟩
theorem code_sz {sz : Int32} {g : Nat → Int32} (h : codeOK sz g) : tn (if sz < 0 then 0 else sz) ≤ 50 := by
  rcases h with rfl | ⟨n, h1, h2, rfl, h4⟩
  · decide
  · rw [if_neg (nI_pos (by omega)), tn, nI_clamp (by omega)]; exact h2
/-- a row with another law -/
def txZ (r : Nat → Int32) (u : Nat) (c : List Int32) (k : Nat) : Nat → Int32 := fun x => if x = 4 then 0 else if x = 6 + u then nI c.length else if 142 + 50 * u ≤ x ∧ x < 142 + 50 * u + k then c.getD (x - (142 + 50 * u)) 0 else r x
theorem tx_off {r : Nat → Int32} {u : Nat} {c : List Int32} {k x : Nat} (h4 : x ≠ 4) (h6 : x ≠ 6 + u) (hl : ¬ (142 + 50 * u ≤ x ∧ x < 142 + 50 * u + k)) : txZ r u c k x = r x := by
  unfold txZ
  rw [if_neg h4, if_neg h6, if_neg hl]
theorem tx_4 {r : Nat → Int32} {u : Nat} {c : List Int32} {k : Nat} : txZ r u c k 4 = 0 := by
  unfold txZ
  exact if_pos rfl
theorem tx_6 {r : Nat → Int32} {u : Nat} {c : List Int32} {k : Nat} : txZ r u c k (6 + u) = nI c.length := by
  unfold txZ
  rw [if_neg (by omega), if_pos rfl]
theorem tx_c {r : Nat → Int32} {u : Nat} {c : List Int32} {k j : Nat} (hj : j < k) : txZ r u c k (142 + 50 * u + j) = c.getD j 0 := by
  unfold txZ
  rw [if_neg (by omega), if_neg (by omega), if_pos (by omega), show 142 + 50 * u + j - (142 + 50 * u) = j from by omega]
theorem tx_code {r : Nat → Int32} {u : Nat} {c : List Int32} (h1 : 1 ≤ c.length) (h2 : c.length ≤ 50) (hw : WFc c 1) : codeOK (nI c.length) (fun j => txZ r u c c.length (142 + 50 * u + j)) := by
  refine Or.inr ⟨c.length, h1, h2, rfl, wf_ext (g := gL c) ⟨hw.1, hw.2⟩ (fun j hj => tx_c hj)⟩
theorem tx_RO {r : Nat → Int32} {u ns nk hr : Nat} {c : List Int32} (hu : u < 2) (h : RO r ns nk hr) (h1 : 1 ≤ c.length) (h2 : c.length ≤ 50) (hw : WFc c 1) : RO (txZ r u c c.length) ns nk hr := by
  have n6 := h.1.2
  have n7 := h.2.1.2
  have T : ∀ x, x < 142 → x ≠ 4 → x ≠ 6 + u → txZ r u c c.length x = r x := fun x a b d => tx_off b d (by omega)
  have tc := tx_code (r := r) (u := u) h1 h2 hw
  obtain ⟨⟨a1, a2⟩, ⟨b1, b2⟩, ⟨c1, c2⟩, d, e, f, g, i⟩ := h
  refine ⟨⟨by rw [T _ (by omega) (by omega) (by omega)]; exact a1, a2⟩, ⟨by rw [T _ (by omega) (by omega) (by omega)]; exact b1, b2⟩, ⟨by rw [T _ (by omega) (by omega) (by omega)]; exact c1, c2⟩, fun x hx => ?_, fun s hs => ?_, fun k hk => ?_, ?_, ?_⟩
  · rw [T _ (by omega) (by omega) (by omega)]; exact d x hx
  · rw [T _ (by omega) (by omega) (by omega), T _ (by omega) (by omega) (by omega)]; exact e s hs
  · rw [T _ (by omega) (by omega) (by omega), T _ (by omega) (by omega) (by omega), T _ (by omega) (by omega) (by omega), T _ (by omega) (by omega) (by omega), T _ (by omega) (by omega) (by omega), T _ (by omega) (by omega) (by omega)]; exact f k hk
  · by_cases q : u = 0
    · subst q
      rw [show (6 : Nat) = 6 + 0 from rfl, tx_6]
      exact tc
    · rw [T 6 (by omega) (by omega) (by omega)]
      exact code_ext g (fun j hj => tx_off (by omega) (by omega) (by omega))
  · by_cases q : u = 1
    · subst q
      rw [show (7 : Nat) = 6 + 1 from rfl, tx_6]
      exact tc
    · rw [T 7 (by omega) (by omega) (by omega)]
      exact code_ext i (fun j hj => tx_off (by omega) (by omega) (by omega))
theorem tx_MR {M M' : Mem} {r : Nat → Int32} {u ns nk hr : Nat} {c : List Int32} (hu : u < 2) (hM : MR M 2 r) (h : RO r ns nk hr) (h1 : 1 ≤ c.length) (h2 : c.length ≤ 50) (hR : RR M' (4 + 5 * u) (nI c.length) (fun j => enc (c.getD j 0))) (hk : ∀ b, 2 ≤ b → b < 31 → b ≠ 4 + 5 * u → b ≠ 5 + 5 * u → M' b = M b) : MR M' 2 (txZ r u c c.length) := by
  have n6 := h.1.2
  have n7 := h.2.1.2
  have t2 := h.tn2
  have t3 := h.tn3
  have T : ∀ x, x < 142 → x ≠ 4 → x ≠ 6 + u → txZ r u c c.length x = r x := fun x a b d => tx_off b d (by omega)
  obtain ⟨⟨a1, a2, a3⟩, b, d, e, ⟨f1, f2, f3⟩, ⟨g1, g2, g3⟩⟩ := hM
  have cs0 := code_sz h.2.2.2.2.2.2.1
  have cs1 := code_sz h.2.2.2.2.2.2.2
  refine ⟨⟨?_, ?_, ?_⟩, fun x hx => ?_, fun i hi => ?_, fun i hi k hk' => ?_, ⟨?_, ?_⟩, ⟨?_, ?_⟩⟩
  · rw [hk _ (by omega) (by omega) (by omega) (by omega), T _ (by omega) (by omega) (by omega)]; exact a1
  · rw [hk _ (by omega) (by omega) (by omega) (by omega), T _ (by omega) (by omega) (by omega)]; exact a2
  · rw [hk _ (by omega) (by omega) (by omega) (by omega), T _ (by omega) (by omega) (by omega)]; exact a3
  · rw [hk _ (by omega) (by omega) (by omega) (by omega), T _ (by omega) (by omega) (by omega)]; exact b x hx
  · rw [T _ (by omega) (by omega) (by omega), t3] at hi
    rw [hk _ (by omega) (by omega) (by omega) (by omega), T _ (by omega) (by omega) (by omega), T _ (by omega) (by omega) (by omega)]; exact d i (by rw [t3]; omega)
  · rw [T _ (by omega) (by omega) (by omega), t2] at hi
    rw [hk _ (by omega) (by omega) (by omega) (by omega), T _ (by omega) (by omega) (by omega)]; exact e i (by rw [t2]; omega) k hk'
  · rw [hk _ (by omega) (by omega) (by omega) (by omega)]; exact f1
  · by_cases q : u = 0
    · subst q
      rw [show txZ r 0 c c.length 6 = nI c.length from tx_6, if_neg (nI_pos (by omega))]
      refine ⟨hR.1, fun j hj => ?_⟩
      have hj2 := hj
      rw [tn, nI_clamp (by omega)] at hj2
      dsimp only
      rw [show 142 + j = 142 + 50 * 0 + j from by omega, tx_c hj2]
      exact hR.2 j hj
    · rw [T 6 (by omega) (by omega) (by omega)]
      refine ⟨by rw [hk _ (by omega) (by omega) (by omega) (by omega)]; exact f2, fun j hj => ?_⟩
      dsimp only
      rw [hk _ (by omega) (by omega) (by omega) (by omega), tx_off (by omega) (by omega) (by omega)]; exact f3 j hj
  · rw [hk _ (by omega) (by omega) (by omega) (by omega)]; exact g1
  · by_cases q : u = 1
    · subst q
      rw [show txZ r 1 c c.length 7 = nI c.length from tx_6, if_neg (nI_pos (by omega))]
      refine ⟨hR.1, fun j hj => ?_⟩
      have hj2 := hj
      rw [tn, nI_clamp (by omega)] at hj2
      dsimp only
      rw [show 192 + j = 142 + 50 * 1 + j from by omega, tx_c hj2]
      exact hR.2 j hj
    · rw [T 7 (by omega) (by omega) (by omega)]
      refine ⟨by rw [hk _ (by omega) (by omega) (by omega) (by omega)]; exact g2, fun j hj => ?_⟩
      dsimp only
      rw [hk _ (by omega) (by omega) (by omega) (by omega), tx_off (by omega) (by omega) (by omega)]; exact g3 j hj
theorem call_text {n : Nat} {M : Mem} (h : INV n M) (a : Int32) : wp_X9_text 0 a M (fun r M1 => wp_X10_text 120 a M1 (fun r2 M2 => r = r2 ∧ INV (n + 1) M2)) := by
  obtain ⟨ns, nk, hr, nt, nw, hR, hh, hnt, hnw, hby⟩ := h.2.1.1
  have n7 := hR.2.1.2
  have n6 := hR.1.2
  obtain ⟨r, er⟩ : ∃ r, r = M 121 := ⟨_, rfl⟩
  have hT := h.1.1.2.2.1
  have hWt := h.1.1.2.2.2
  have hmr := h.mr
  rw [← er] at hR hnt hnw hby hT hWt hmr
  rw [hnt.1] at hT
  unfold wp_X9_text
  refine ⟨by decide, ?_⟩
  rw [e_isWithin]
  by_cases h1 : zin a 0 1
  · refine b2t h1 ?_
    obtain ⟨u, hu1, rfl⟩ := (zin_nI (n := 1) (by decide)).mp h1
    have hu : u < 2 := by omega
    obtain ⟨B, eB⟩ : ∃ B : Nat → Int32, B = fun j => r (72 + j) := ⟨_, rfl⟩
    rw [← eB] at hT
    obtain ⟨ok, p', c', k1, k2, k3, k4, k5⟩ := read_all (u := u) (en := nt) (B := B) hu hnt.2 0 [] 0 (by omega) (by simp) WFc.ofNil
    unfold wp_X2_read
    refine ⟨by decide, by decide, ?_⟩
    refine sp_copyRow (h := 99) (a := 31) (by decide) (by decide) hT (by rw [show lnT (99 + 1) = 50 from by decide]; exact hnt.2) (by rw [show lnT (31 + 1) = 50 from by decide]; exact hnt.2) (by rw [show lnT (99 + 1) = 50 from by decide]; decide) (by decide) (fun M1 g1 o1 => ?_)
    intro M2 e2 M3 e3
    refine sp_clear (h := 101) (by decide) ?_
    have K4 : ∀ b, b < 98 ∨ 102 < b → (mu M3 101 1 0) b = M b := fun b hb => by rw [mu_ne (by omega), e3, mu_ne (by omega), e2, mu_ne (by omega), o1 b (by omega)]
    have c4 : CS u nt B 0 [] (mu M3 101 1 0) := by
      refine ⟨⟨?_, ?_⟩, ⟨?_, fun j hj => ?_⟩, by rw [mu_hit]; rfl, fun j hj => by simp at hj⟩
      · rw [mu_ne (by decide), e3, mu_off (by decide), e2, mu_hit]
      · rw [mu_ne (by decide), e3, mu_hit]; rfl
      · rw [mu_ne (by decide), e3, mu_ne (by decide), e2, mu_ne (by decide)]; exact g1.1
      · rw [mu_ne (by decide), e3, mu_ne (by decide), e2, mu_ne (by decide)]; exact g1.2 j (by rw [tn, nI_clamp (by omega)]; exact hj)
    refine k4 _ _ c4 (fun M5 c5 o5 => ?_)
    have K5 : ∀ b, b < 98 ∨ 102 < b → M5 b = M b := fun b hb => by rw [o5 b (by unfold TCx; omega)]; exact K4 b hb
    have K6 : ∀ b, b ≠ 31 → (b < 98 ∨ 102 < b) → (mu M5 31 1 0) b = M b := fun b h31 hb => by rw [mu_ne h31]; exact K5 b hb
    -- the reference, up to its verdict
    have mdl : ∀ (Mx : Mem) (Q : Int32 → Mem → Prop), (∀ b, 120 ≤ b → Mx b = M b) → (∀ M8, OX Mx M8 → MX u nt B p' c' ok 0 M8 → ((ok = 0 ∨ ¬ p' = nt) → b_X10_text_78 120 Q (nI u) 120 M8) ∧ (ok = 1 → p' = nt → b_X10_text_79 120 Q (nI u) 120 1 M8)) → wp_X10_text 120 (nI u) Mx Q := by
      intro Mx Q hx hq
      unfold wp_X10_text
      refine ⟨by decide, ?_⟩
      rw [e_in]
      refine b2t h1 ?_
      intro P1 f1 P2 f2 P3 f3 P4 f4 P5 f5 P6 f6
      have e4 : P2 (120 + 1) 4 = nI nt := by rw [f2, mu_ne (by decide), f1, mu_ne (by decide), show Mx (120 + 1) = M 121 from hx 121 (by decide), ← er]; exact hnt.1
      rw [e4] at f3
      have m6 : MX u nt B 0 [] 1 0 P6 := by
        refine ⟨⟨?_, ?_, fun j hj => ?_⟩, ⟨?_, ?_, ?_⟩, ?_, fun j hj => by simp at hj⟩
        · rw [f6, mu_off (by decide), f5, mu_off (by decide), f4, mu_off (by decide), f3, mu_off (by decide), f2, mu_off (by decide), f1, mu_hit]
        · rw [f6, mu_off (by decide), f5, mu_off (by decide), f4, mu_off (by decide), f3, mu_hit]
        · rw [f6, mu_ne (by decide), f5, mu_ne (by decide), f4, mu_ne (by decide), f3, mu_ne (by decide), f2, mu_ne (by decide), f1, mu_ne (by decide), hx 121 (by decide), ← er, eB]
        · rw [f6, mu_off (by decide), f5, mu_off (by decide), f4, mu_off (by decide), f3, mu_off (by decide), f2, mu_hit]; rfl
        · rw [f6, mu_off (by decide), f5, mu_off (by decide), f4, mu_hit]; rfl
        · rw [f6, mu_hit]
        · rw [f6, mu_off (by decide), f5, mu_hit]; rfl
      have ox : OX Mx P6 := by
        rw [f6, f5, f4, f3, f2, f1]
        exact (OX.mu (by omega)).tr ((OX.mu (by omega)).tr ((OX.mu (by omega)).tr ((OX.mu (by omega)).tr ((OX.mu (by omega)).tr (OX.mu (by omega))))))
      refine k5 _ _ m6 (fun M8 m8 o8 => ?_)
      obtain ⟨g1, g2⟩ := hq M8 (ox.tr o8) m8
      rw [m8.2.1.2.2, m8.2.1.1, m8.1.2.1, nI_eq (by omega) (by omega)]
      refine ⟨fun z => g1 (Or.inl z), fun z => ⟨fun w => g1 (Or.inr w), fun w => g2 (k1.resolve_left z) w⟩⟩
    have fail : (ok = 0 ∨ ¬ p' = nt) → wp_X10_text 120 (nI u) (mu M5 31 1 0) (fun r2 M2 => (-10) - (mu M5 31 1 0) (0 + 98) 3 = r2 ∧ INV (n + 1) M2) := by
      intro hb
      refine mdl _ _ (fun b hb => K6 b (by omega) (by omega)) (fun M8 o8 m8 => ⟨fun _ => ?_, fun z w => ?_⟩)
      · unfold b_X10_text_78 b_X10_text_79
        refine ⟨by unfold isb; decide, ?_⟩
        intro M9 e9 Ma ea
        have g11 : Ma 120 11 = 0 := by rw [ea, mu_ne (by decide), e9, mu_hit]
        rw [g11]
        refine ⟨fun z => absurd rfl z, fun _ => ⟨?_, ?_⟩⟩
        · rw [mu_ne (by decide), show M5 (0 + 98) 3 = nI p' from c5.1.2, ea, mu_ne (by decide), e9, mu_off (by decide), m8.2.1.1]
        · have KA' : ∀ b, b ≠ 120 → b ≠ 125 → b ≠ 121 → Ma b = (mu M5 31 1 0) b := fun b x y z => by rw [ea, mu_ne z, e9, mu_ne x, o8.1 b x y]
          have k120 : ∀ j, (j < 6 ∨ 11 < j) → Ma 120 j = M 120 j := fun j hj => by rw [ea, mu_ne (by decide), e9, mu_off (by omega), o8.2 j hj, K6 120 (by decide) (by omega)]
          have e121 : Ma 121 = upd r 4 0 := by
            rw [ea, show (120 + 1 : Nat) = 121 from rfl, mu_same, e9, mu_ne (by decide), o8.1 121 (by decide) (by decide), K6 121 (by decide) (by omega), ← er]
          refine h.tape (M1 := mu M5 31 1 0) (r := upd r 4 0) ⟨ns, nk, hr, 0, nw, hR.ext (fun x hx => upd_off hx.2.1), hh, ⟨by rw [upd_hit]; rfl, by omega⟩, ⟨by rw [upd_off (by decide)]; exact hnw.1, hnw.2⟩, fun j hj => by omega⟩ (fun x hx => by rw [← er]; exact upd_off hx.2.1) (by rw [← er]; exact upd_off (by decide)) ⟨by rw [mu_hit, upd_hit], fun j hj => ?_⟩ ?_ (fun b x y z => ?_) (fun b hb => KA' b (by omega) (by omega) (by omega)) ?_ e121 (fun i hi => ?_)
          · rw [upd_hit] at hj
            exact absurd hj (by show ¬ j < tn (nI 0); rw [tn, nI_clamp (by omega)]; omega)
          · refine ⟨by rw [K6 33 (by omega) (by omega), upd_off (by decide)]; exact hWt.1, fun j hj => ?_⟩
            rw [upd_off (by decide)] at hj
            rw [K6 34 (by omega) (by omega)]
            dsimp only
            rw [upd_off (by omega)]; exact hWt.2 j hj
          · by_cases w : b < 98 ∨ 102 < b
            · exact K6 b (by omega) w
            · exact absurd (by unfold scC; omega) z
          · refine ⟨by simp, ?_, ?_, ?_, ?_, ?_, ?_, ?_, ?_, ?_⟩
            all_goals first | (simp; rw [KA' _ (by decide) (by decide) (by decide), K6 _ (by decide) (by omega)]; done) | (simp; exact k120 _ (by omega))
          · rw [KA' 123 (by decide) (by decide) (by decide), K6 123 (by decide) (by omega)]; exact (h.2.2 i hi).2.2
      · rcases hb with q | q
        · rw [q] at z; exact absurd z (by decide)
        · exact absurd w q
    rcases k1 with rfl | rfl
    · refine ⟨fun _ => sp_clear (h := 31) (by decide) ⟨fun z => absurd rfl z, fun _ => fail (Or.inl rfl)⟩, fun z => absurd rfl z⟩
    · refine ⟨fun z => absurd z (by decide), fun _ => ?_⟩
      rw [show M5 98 3 = nI p' from c5.1.2, show M5 (98 + 1) 1 = nI nt from c5.2.1.1, nI_eq (by omega) (by omega)]
      by_cases hp : p' = nt
      · refine ⟨fun z => absurd hp z, fun _ => sp_clear (h := 31) (by decide) ⟨fun _ => ?_, fun z => absurd z (by decide)⟩⟩
        obtain ⟨a1, a2, a3⟩ := k3 rfl
        simp only [List.length_nil] at a2
        have l50 : c'.length ≤ 50 := by omega
        have l1 : 1 ≤ c'.length := by have := dep_le (gL c') c'.length; rw [a3.2] at this; omega
        have law : ∀ (Q : Nat → Mem → Prop), Q (3 + 5 * u) (mu M5 31 1 0) → wp_X1_lawOf 2 (nI u) (mu M5 31 1 0) Q := by
          intro Q hQ
          have : u = 0 ∨ u = 1 := by omega
          unfold wp_X1_lawOf
          rcases this with rfl | rfl
          · exact ⟨by decide, fun z => absurd rfl z, fun _ => hQ⟩
          · exact ⟨by decide, fun _ => hQ, fun z => absurd z (by decide)⟩
        refine law _ ?_
        have kl : kdT (3 + 5 * u) = 0 ∧ kdT (4 + 5 * u) = 3 ∧ lnT (5 + 5 * u) = 50 := (show ∀ u, u < 2 → kdT (3 + 5 * u) = 0 ∧ kdT (4 + 5 * u) = 3 ∧ lnT (5 + 5 * u) = 50 by decide) u hu
        refine ⟨kl.1, ?_⟩
        have rr : RR (mu M5 31 1 0) 101 (nI c'.length) (fun j => enc (c'.getD j 0)) := ⟨by rw [mu_ne (by decide)]; exact c5.2.2.1, fun j hj => by rw [tn, nI_clamp (by omega)] at hj; rw [mu_ne (by decide)]; exact c5.2.2.2 j hj⟩
        rw [show 3 + 5 * u + 1 = 4 + 5 * u from by omega]
        refine sp_copyRow (h := 4 + 5 * u) (a := 101) kl.2.1 (by decide) rr (by rw [show 4 + 5 * u + 1 = 5 + 5 * u from by omega, kl.2.2]; exact l50) (by rw [show lnT (101 + 1) = 50 from by decide]; exact l50) (by rw [show 4 + 5 * u + 1 = 5 + 5 * u from by omega, kl.2.2]; decide) (by omega) (fun Mb rb ob => ?_)
        have Kb : ∀ b, b ≠ 31 → b ≠ 4 + 5 * u → b ≠ 5 + 5 * u → (b < 98 ∨ 102 < b) → Mb b = M b := fun b x y z w => by rw [ob b (by omega)]; exact K6 b x w
        have hmb : MR Mb 2 (txZ r u c' c'.length) := tx_MR hu hmr hR l1 l50 rb (fun b x y z w => Kb b (by omega) z w (by omega))
        refine mdl _ _ (fun b hb => Kb b (by omega) (by omega) (by omega) (by omega)) (fun M8 o8 m8 => ⟨fun z => ?_, fun _ _ => ?_⟩)
        · rcases z with z | z
          · exact absurd z (by decide)
          · exact absurd hp z
        unfold b_X10_text_79
        refine ⟨by unfold isb; decide, ?_⟩
        intro M9 e9 Ma ea
        have g11 : Ma 120 11 = 1 := by rw [ea, mu_ne (by decide), e9, mu_hit]
        have g10 : Ma 120 10 = nI c'.length := by rw [ea, mu_ne (by decide), e9, mu_off (by decide)]; exact m8.2.2.1
        rw [g11, g10, show (6 : Int32) = nI 6 from rfl, nI_add]
        refine ⟨fun _ => ⟨vp_in_nI (by omega) (by decide), ?_⟩, fun z => absurd z (by decide)⟩
        rw [nI_clamp (by omega)]
        intro Mc ec
        have e121 : Mc 121 = txZ r u c' 0 := by
          rw [ec, show (120 + 1 : Nat) = 121 from rfl, mu_same, ea, show (120 + 1 : Nat) = 121 from rfl, mu_same, e9, mu_ne (by decide), o8.1 121 (by decide) (by decide), Kb 121 (by decide) (by omega) (by omega) (by omega), ← er]
          funext x
          unfold txZ
          by_cases x6 : x = 6 + u
          · rw [x6, upd_hit, if_neg (by omega), if_pos rfl]
          · rw [upd_off x6]
            by_cases x4 : x = 4
            · rw [x4, upd_hit, if_pos rfl]
            · rw [upd_off x4, if_neg x4, if_neg x6, if_neg (by omega)]
        have kc : ∀ b, b ≠ 121 → b ≠ 120 → b ≠ 125 → Mc b = Mb b := fun b x y z => by rw [ec, mu_ne x, ea, mu_ne x, e9, mu_ne y, o8.1 b y z]
        have k120 : ∀ j, j ≠ 11 → Mc 120 j = M8 120 j := fun j hj => by rw [ec, mu_ne (by decide), ea, mu_ne (by decide), e9, mu_off hj]
        have k125 : Mc 125 = M8 125 := by rw [ec, mu_ne (by decide), ea, mu_ne (by decide), e9, mu_ne (by decide)]
        have fin : ∀ Md, Md 121 = txZ r u c' c'.length → (∀ b, b ≠ 121 → Md b = Mc b) → INV (n + 1) Md := by
          intro Md ed kd
          refine h.row (M1 := Mb) (r := txZ r u c' c'.length) ⟨ns, nk, hr, 0, nw, tx_RO hu hR l1 l50 a3, hh, ⟨tx_4, by omega⟩, ⟨by rw [tx_off (by omega) (by omega) (by omega)]; exact hnw.1, hnw.2⟩, fun j hj => by omega⟩ ⟨?_, hmb, ⟨?_, fun j hj => ?_⟩, ⟨?_, fun j hj => ?_⟩⟩ (fun b x y z => ?_) (fun b hb => (kd b (by omega)).trans (kc b (by omega) (by omega) (by omega))) ?_ ed (fun i hi => ?_)
          · rw [Kb 1 (by omega) (by omega) (by omega) (by omega), tx_off (by omega) (by omega) (by omega), er]; exact h.1.1.1
          · rw [ob _ (by omega), mu_hit, tx_4]
          · rw [tx_4] at hj
            exact absurd hj (by show ¬ j < tn (nI 0); rw [tn, nI_clamp (by omega)]; omega)
          · rw [Kb _ (by omega) (by omega) (by omega) (by omega), tx_off (by omega) (by omega) (by omega)]; exact hWt.1
          · rw [tx_off (by omega) (by omega) (by omega)] at hj
            have hj2 := hj
            rw [hnw.1, tn, nI_clamp (by omega)] at hj2
            dsimp only
            rw [Kb _ (by omega) (by omega) (by omega) (by omega), tx_off (by omega) (by omega) (by omega)]; exact hWt.2 j hj
          · by_cases w : b < 98 ∨ 102 < b
            · exact Kb b (by omega) (by omega) (by omega) w
            · exact absurd (by unfold scC; omega) z
          · have kq : ∀ b, 120 ≤ b → b ≠ 121 → b ≠ 120 → b ≠ 125 → Md b = M b := fun b x y z w => by rw [kd b y, kc b y z w, Kb b (by omega) (by omega) (by omega) (by omega)]
            have kz : ∀ j, (j < 6 ∨ 11 < j) → Md 120 j = M 120 j := fun j hj => by rw [kd 120 (by decide), k120 j (by omega), o8.2 j hj, Kb 120 (by omega) (by omega) (by omega) (by omega)]
            refine ⟨by simp, ?_, ?_, ?_, ?_, ?_, ?_, ?_, ?_, ?_⟩
            all_goals first | (simp; rw [kq _ (by decide) (by decide) (by decide) (by decide)]; done) | (simp; exact kz _ (by omega))
          · rw [ed, kd 122 (by decide), kd 123 (by decide), kc 122 (by decide) (by decide) (by decide), kc 123 (by decide) (by decide) (by decide), Kb 122 (by omega) (by omega) (by omega) (by omega), Kb 123 (by omega) (by omega) (by omega) (by omega), tx_off (by omega) (by omega) (by omega), er]
            exact h.2.2 i hi
        have lp : ∀ (m i : Nat) (Md : Mem), i + m = c'.length → Md 121 = txZ r u c' i → (∀ b, b ≠ 121 → Md b = Mc b) → l_X10_text_119 120 (fun r2 M2 => 1 = r2 ∧ INV (n + 1) M2) (nI u) (m + 1) (nI i) Md := by
          intro m
          induction m with
          | zero =>
            intro i Md hi ed kd
            have : i = c'.length := by omega
            subst this
            show B_X10_text_119 120 _ _ _ _ _
            unfold B_X10_text_119
            rw [show Md 120 10 = nI c'.length from by rw [kd 120 (by decide), k120 10 (by decide)]; exact m8.2.2.1]
            exact br_t (nI_le (Nat.le_refl _) (by omega)) ⟨rfl, fin Md ed kd⟩
          | succ m ih =>
            intro i Md hi ed kd
            show B_X10_text_119 120 _ _ _ _ _
            unfold B_X10_text_119
            rw [show Md 120 10 = nI c'.length from by rw [kd 120 (by decide), k120 10 (by decide)]; exact m8.2.2.1]
            refine br_f (nI_ge (by omega) (by omega)) ⟨vp_in_nI (by omega) (by decide), ?_⟩
            rw [show (142 : Int32) = nI 142 from rfl, show (50 : Int32) = nI 50 from rfl, pk_mul, nI_add, nI_add]
            refine ⟨vp_in_nI (by omega) (by decide), ?_⟩
            rw [nI_clamp (by omega), nI_clamp (by omega), show Md (120 + 5) i = c'.getD i 0 from by rw [show Md (120 + 5) = Mc 125 from kd 125 (by decide), k125]; exact m8.2.2.2 i (by omega)]
            intro Me ee x ex
            rw [nI_1] at ex
            subst ex
            refine ih (i + 1) Me (by omega) ?_ (fun b hb => by rw [ee, mu_ne hb]; exact kd b hb)
            rw [ee, show (120 + 1 : Nat) = 121 from rfl, mu_same, ed]
            funext x
            unfold txZ
            by_cases q : x = 142 + 50 * u + i
            · rw [q, upd_hit, if_neg (by omega), if_neg (by omega), if_pos (by omega), show 142 + 50 * u + i - (142 + 50 * u) = i from by omega]
            · rw [upd_off q]
              by_cases w : 142 + 50 * u ≤ x ∧ x < 142 + 50 * u + i
              · rw [if_pos w, if_pos (show 142 + 50 * u ≤ x ∧ x < 142 + 50 * u + (i + 1) by omega)]
              · rw [if_neg w, if_neg (show ¬ (142 + 50 * u ≤ x ∧ x < 142 + 50 * u + (i + 1)) by omega)]
        exact ⟨c'.length + 1, lp c'.length 0 Mc (by omega) e121 (fun _ _ => rfl)⟩
      · exact ⟨fun _ => sp_clear (h := 31) (by decide) ⟨fun z => absurd rfl z, fun _ => fail (Or.inr hp)⟩, fun z => absurd z hp⟩
  · refine b2f h1 (sp_refuse (k := 1) (by decide) (by decide) ?_)
    unfold wp_X10_text
    refine ⟨by decide, ?_⟩
    rw [e_in]
    exact b2f h1 (fin_err (e := -1000000001) h (k := 1) (by decide) (by decide) rfl)
