/-! ===== the moor as a row of numbers ===== -/
def zb (x : Int32) (n : Nat) : Prop := ∃ j, j ≤ n ∧ x = nI j
theorem upd_hit {r : Nat → Int32} {k : Nat} {v : Int32} : upd r k v k = v := by simp [upd]
theorem upd_off {r : Nat → Int32} {k j : Nat} {v : Int32} (h : j ≠ k) : upd r k v j = r j := by simp [upd, h]
theorem MR.snow {M : Mem} {o c : Nat} {v : Int32} {r : Nat → Int32} (h : MR M o r) (hc : c < 10) : MR (mu M (o + 11) c v) o (upd r (8 + c) v) := by
  obtain ⟨⟨a1, a2, a3⟩, b, d, e, ⟨f1, f2, f3⟩, ⟨g1, g2, g3⟩⟩ := h
  have n3 : upd r (8 + c) v 3 = r 3 := upd_off (by omega)
  have n2 : upd r (8 + c) v 2 = r 2 := upd_off (by omega)
  refine ⟨⟨?_, ?_, ?_⟩, fun c' hc' => ?_, fun i hi => ?_, fun i hi k hk => ?_, ⟨?_, ?_, fun j hj => ?_⟩, ⟨?_, ?_, fun j hj => ?_⟩⟩
  · rw [mu_ne (by omega), upd_off (by omega)]; exact a1
  · rw [mu_ne (by omega), upd_off (by omega)]; exact a2
  · rw [mu_ne (by omega), upd_off (by omega)]; exact a3
  · by_cases q : c' = c
    · subst q; rw [mu_hit, upd_hit]
    · rw [mu_off q, upd_off (by omega)]; exact b c' hc'
  · rw [n3] at hi
    rw [mu_ne (by omega), upd_off (by omega), upd_off (by omega)]; exact d i hi
  · rw [n2] at hi
    rw [mu_ne (by omega), upd_off (by omega)]; exact e i hi k hk
  · rw [mu_ne (by omega)]; exact f1
  · rw [mu_ne (by omega), upd_off (by omega)]; exact f2
  · rw [upd_off (by omega)] at hj
    rw [mu_ne (by omega)]; dsimp only; rw [upd_off (by omega)]; exact f3 j hj
  · rw [mu_ne (by omega)]; exact g1
  · rw [mu_ne (by omega), upd_off (by omega)]; exact g2
  · rw [upd_off (by omega)] at hj
    rw [mu_ne (by omega)]; dsimp only; rw [upd_off (by omega)]; exact g3 j hj
theorem MR.seeker {M : Mem} {o s w : Nat} {v : Int32} {r : Nat → Int32} (h : MR M o r) (hw : w < 2) (hs : s < 6) (h6 : tn (r 3) ≤ 6) : MR (mu M (o + 12 + 4 + s) w v) o (upd r (18 + 2 * s + w) v) := by
  obtain ⟨⟨a1, a2, a3⟩, b, d, e, ⟨f1, f2, f3⟩, ⟨g1, g2, g3⟩⟩ := h
  have n3 : upd r (18 + 2 * s + w) v 3 = r 3 := upd_off (by omega)
  have n2 : upd r (18 + 2 * s + w) v 2 = r 2 := upd_off (by omega)
  refine ⟨⟨?_, ?_, ?_⟩, fun c' hc' => ?_, fun i hi => ?_, fun i hi k hk => ?_, ⟨?_, ?_, fun j hj => ?_⟩, ⟨?_, ?_, fun j hj => ?_⟩⟩
  · rw [mu_ne (by omega), upd_off (by omega)]; exact a1
  · rw [mu_ne (by omega), upd_off (by omega)]; exact a2
  · rw [mu_ne (by omega), upd_off (by omega)]; exact a3
  · rw [mu_ne (by omega), upd_off (by omega)]; exact b c' hc'
  · rw [n3] at hi
    obtain ⟨d1, d2⟩ := d i hi
    by_cases q : i = s
    · subst q
      have hw' : w = 0 ∨ w = 1 := by omega
      rcases hw' with rfl | rfl
      · refine ⟨by rw [mu_hit, show 18 + 2 * i + 0 = 18 + 2 * i from rfl, upd_hit], ?_⟩
        rw [mu_off (by decide), upd_off (by omega)]; exact d2
      · refine ⟨?_, by rw [mu_hit, show 19 + 2 * i = 18 + 2 * i + 1 from by omega, upd_hit]⟩
        rw [mu_off (by decide), upd_off (by omega)]; exact d1
    · rw [mu_ne (by omega), upd_off (by omega), upd_off (by omega)]; exact d i hi
  · rw [n2] at hi
    rw [mu_ne (by omega), upd_off (by omega)]; exact e i hi k hk
  · rw [mu_ne (by omega)]; exact f1
  · rw [mu_ne (by omega), upd_off (by omega)]; exact f2
  · rw [upd_off (by omega)] at hj
    rw [mu_ne (by omega)]; dsimp only; rw [upd_off (by omega)]; exact f3 j hj
  · rw [mu_ne (by omega)]; exact g1
  · rw [mu_ne (by omega), upd_off (by omega)]; exact g2
  · rw [upd_off (by omega)] at hj
    rw [mu_ne (by omega)]; dsimp only; rw [upd_off (by omega)]; exact g3 j hj
theorem MR.sheep {M : Mem} {o s w : Nat} {v : Int32} {r : Nat → Int32} (h : MR M o r) (hw : w < 6) (hs : s < 7) (h6 : tn (r 3) ≤ 6) : MR (mu M (o + 13 + 9 + s) w v) o (upd r (30 + 6 * s + w) v) := by
  obtain ⟨⟨a1, a2, a3⟩, b, d, e, ⟨f1, f2, f3⟩, ⟨g1, g2, g3⟩⟩ := h
  have n3 : upd r (30 + 6 * s + w) v 3 = r 3 := upd_off (by omega)
  have n2 : upd r (30 + 6 * s + w) v 2 = r 2 := upd_off (by omega)
  refine ⟨⟨?_, ?_, ?_⟩, fun c' hc' => ?_, fun i hi => ?_, fun i hi k hk => ?_, ⟨?_, ?_, fun j hj => ?_⟩, ⟨?_, ?_, fun j hj => ?_⟩⟩
  · rw [mu_ne (by omega), upd_off (by omega)]; exact a1
  · rw [mu_ne (by omega), upd_off (by omega)]; exact a2
  · rw [mu_ne (by omega), upd_off (by omega)]; exact a3
  · rw [mu_ne (by omega), upd_off (by omega)]; exact b c' hc'
  · rw [n3] at hi
    rw [mu_ne (by omega), upd_off (by omega), upd_off (by omega)]; exact d i hi
  · rw [n2] at hi
    by_cases q : i = s
    · subst q
      by_cases q2 : k = w
      · subst q2; rw [mu_hit, upd_hit]
      · rw [mu_off q2, upd_off (by omega)]; exact e i hi k hk
    · rw [mu_ne (by omega), upd_off (by omega)]; exact e i hi k hk
  · rw [mu_ne (by omega)]; exact f1
  · rw [mu_ne (by omega), upd_off (by omega)]; exact f2
  · rw [upd_off (by omega)] at hj
    rw [mu_ne (by omega)]; dsimp only; rw [upd_off (by omega)]; exact f3 j hj
  · rw [mu_ne (by omega)]; exact g1
  · rw [mu_ne (by omega), upd_off (by omega)]; exact g2
  · rw [upd_off (by omega)] at hj
    rw [mu_ne (by omega)]; dsimp only; rw [upd_off (by omega)]; exact g3 j hj
theorem MR.hour {M : Mem} {o : Nat} {v : Int32} {r : Nat → Int32} (h : MR M o r) : MR (mu M o 8 v) o (upd r 0 v) := by
  obtain ⟨⟨a1, a2, a3⟩, b, d, e, ⟨f1, f2, f3⟩, ⟨g1, g2, g3⟩⟩ := h
  have n3 : upd r 0 v 3 = r 3 := upd_off (by omega)
  have n2 : upd r 0 v 2 = r 2 := upd_off (by omega)
  refine ⟨⟨?_, ?_, ?_⟩, fun c' hc' => ?_, fun i hi => ?_, fun i hi k hk => ?_, ⟨?_, ?_, fun j hj => ?_⟩, ⟨?_, ?_, fun j hj => ?_⟩⟩
  · rw [mu_hit, upd_hit]
  · rw [mu_off (by decide), upd_off (by omega)]; exact a2
  · rw [mu_off (by decide), upd_off (by omega)]; exact a3
  · rw [mu_ne (by omega), upd_off (by omega)]; exact b c' hc'
  · rw [n3] at hi
    rw [mu_ne (by omega), upd_off (by omega), upd_off (by omega)]; exact d i hi
  · rw [n2] at hi
    rw [mu_ne (by omega), upd_off (by omega)]; exact e i hi k hk
  · rw [mu_ne (by omega)]; exact f1
  · rw [mu_ne (by omega), upd_off (by omega)]; exact f2
  · rw [upd_off (by omega)] at hj
    rw [mu_ne (by omega)]; dsimp only; rw [upd_off (by omega)]; exact f3 j hj
  · rw [mu_ne (by omega)]; exact g1
  · rw [mu_ne (by omega), upd_off (by omega)]; exact g2
  · rw [upd_off (by omega)] at hj
    rw [mu_ne (by omega)]; dsimp only; rw [upd_off (by omega)]; exact g3 j hj
/-- the moor's own scratch: piles, what was found -/
def scO (o : Nat) : Nat → Prop := fun b => b = o + 4 ∨ b = o + 5 ∨ b = o + 9 ∨ b = o + 10 ∨ b = o + 14 ∨ b = o + 15
theorem MR.kept {M M' : Mem} {o : Nat} {r : Nat → Int32} (h : MR M o r) (h3 : tn (r 3) ≤ 6) (h2 : tn (r 2) ≤ 7) (hk : ∀ b, o ≤ b → b < o + 29 → ¬ scO o b → M' b = M b) : MR M' o r := by
  obtain ⟨⟨a1, a2, a3⟩, b, d, e, ⟨f1, f2, f3⟩, ⟨g1, g2, g3⟩⟩ := h
  have K : ∀ b, o ≤ b → b < o + 29 → (b ≠ o + 4 ∧ b ≠ o + 5 ∧ b ≠ o + 9 ∧ b ≠ o + 10 ∧ b ≠ o + 14 ∧ b ≠ o + 15) → M' b = M b := fun b x y z => hk b x y (by unfold scO; omega)
  refine ⟨⟨?_, ?_, ?_⟩, fun c' hc' => ?_, fun i hi => ?_, fun i hi k hk => ?_, ⟨?_, ?_, fun j hj => ?_⟩, ⟨?_, ?_, fun j hj => ?_⟩⟩
  · rw [K o (by omega) (by omega) (by omega)]; exact a1
  · rw [K o (by omega) (by omega) (by omega)]; exact a2
  · rw [K o (by omega) (by omega) (by omega)]; exact a3
  · rw [K _ (by omega) (by omega) (by omega)]; exact b c' hc'
  · rw [K _ (by omega) (by omega) (by omega)]; exact d i hi
  · rw [K _ (by omega) (by omega) (by omega)]; exact e i hi k hk
  · rw [K _ (by omega) (by omega) (by omega)]; exact f1
  · rw [K _ (by omega) (by omega) (by omega)]; exact f2
  · rw [K _ (by omega) (by omega) (by omega)]; exact f3 j hj
  · rw [K _ (by omega) (by omega) (by omega)]; exact g1
  · rw [K _ (by omega) (by omega) (by omega)]; exact g2
  · rw [K _ (by omega) (by omega) (by omega)]; exact g3 j hj
def lawF (r : Nat → Int32) (a b c : Int32) : Int32 := lawZ 99 (r 6) (fun j => r (142 + j)) a b c
def lawG (r : Nat → Int32) (a b c : Int32) : Int32 := lawZ 1 (r 7) (fun j => r (192 + j)) a b c
/-- the numbers of a moor keep to their bounds: ns SEEKERS, nk SHEEP, HOUR hr -/
def RO (r : Nat → Int32) (ns nk hr : Nat) : Prop :=
  (r 3 = nI ns ∧ ns ≤ 6) ∧ (r 2 = nI nk ∧ nk ≤ 7) ∧ (r 0 = nI hr ∧ hr < 20000) ∧ (∀ c, c < 10 → zb (r (8 + c)) 999) ∧
  (∀ s, s < ns → zb (r (18 + 2 * s)) 9 ∧ zb (r (19 + 2 * s)) 99) ∧
  (∀ k, k < nk → zb (r (30 + 6 * k + 0)) 6 ∧ zb (r (30 + 6 * k + 1)) 9 ∧ zb (r (30 + 6 * k + 2)) 9 ∧ zb (r (30 + 6 * k + 3)) 99 ∧ zb (r (30 + 6 * k + 4)) 63 ∧ zb (r (30 + 6 * k + 5)) 1) ∧
  codeOK (r 6) (fun j => r (142 + j)) ∧ codeOK (r 7) (fun j => r (192 + j))
theorem RO.snow {r : Nat → Int32} {ns nk hr c : Nat} {v : Int32} (h : RO r ns nk hr) (hv : zb v 999) (hc : c < 10) : RO (upd r (8 + c) v) ns nk hr := by
  obtain ⟨⟨a1, a2⟩, ⟨b1, b2⟩, ⟨c1, c2⟩, d, e, f, g, i⟩ := h
  refine ⟨⟨by rw [upd_off (by omega)]; exact a1, a2⟩, ⟨by rw [upd_off (by omega)]; exact b1, b2⟩, ⟨by rw [upd_off (by omega)]; exact c1, c2⟩, fun c' hc' => ?_, fun s hs => ?_, fun k hk => ?_, ?_, ?_⟩
  · by_cases q : c' = c
    · subst q; rw [upd_hit]; exact hv
    · rw [upd_off (by omega)]; exact d c' hc'
  · rw [upd_off (by omega), upd_off (by omega)]; exact e s hs
  · rw [upd_off (by omega), upd_off (by omega), upd_off (by omega), upd_off (by omega), upd_off (by omega), upd_off (by omega)]; exact f k hk
  · rw [upd_off (by omega), show (fun j => upd r (8 + c) v (142 + j)) = (fun j => r (142 + j)) from funext fun j => upd_off (by omega)]; exact g
  · rw [upd_off (by omega), show (fun j => upd r (8 + c) v (192 + j)) = (fun j => r (192 + j)) from funext fun j => upd_off (by omega)]; exact i
theorem RO.at {r : Nat → Int32} {ns nk hr s : Nat} {v : Int32} (h : RO r ns nk hr) (hv : zb v 9) (hs : s < ns) : RO (upd r (18 + 2 * s) v) ns nk hr := by
  obtain ⟨⟨a1, a2⟩, ⟨b1, b2⟩, ⟨c1, c2⟩, d, e, f, g, i⟩ := h
  refine ⟨⟨by rw [upd_off (by omega)]; exact a1, a2⟩, ⟨by rw [upd_off (by omega)]; exact b1, b2⟩, ⟨by rw [upd_off (by omega)]; exact c1, c2⟩, fun c' hc' => ?_, fun s' hs' => ?_, fun k hk => ?_, ?_, ?_⟩
  · rw [upd_off (by omega)]; exact d c' hc'
  · by_cases q : s' = s
    · subst q; rw [upd_hit, upd_off (by omega)]; exact ⟨hv, (e s' hs').2⟩
    · rw [upd_off (by omega), upd_off (by omega)]; exact e s' hs'
  · rw [upd_off (by omega), upd_off (by omega), upd_off (by omega), upd_off (by omega), upd_off (by omega), upd_off (by omega)]; exact f k hk
  · rw [upd_off (by omega), show (fun j => upd r (18 + 2 * s) v (142 + j)) = (fun j => r (142 + j)) from funext fun j => upd_off (by omega)]; exact g
  · rw [upd_off (by omega), show (fun j => upd r (18 + 2 * s) v (192 + j)) = (fun j => r (192 + j)) from funext fun j => upd_off (by omega)]; exact i
/-- what a field of a SHEEP may be -/
def shB (w : Nat) : Nat := if w = 0 then 6 else if w = 1 then 9 else if w = 2 then 9 else if w = 3 then 99 else if w = 4 then 63 else 1
theorem RO.fld {r : Nat → Int32} {ns nk hr k w : Nat} (h : RO r ns nk hr) (hk : k < nk) (hw : w < 6) : zb (r (30 + 6 * k + w)) (shB w) := by
  obtain ⟨h0, h1, h2, h3, h4, h5⟩ := h.2.2.2.2.2.1 k hk
  have : w = 0 ∨ w = 1 ∨ w = 2 ∨ w = 3 ∨ w = 4 ∨ w = 5 := by omega
  rcases this with rfl | rfl | rfl | rfl | rfl | rfl
  · exact h0
  · exact h1
  · exact h2
  · exact h3
  · exact h4
  · exact h5
theorem RO.sheep {r : Nat → Int32} {ns nk hr k w : Nat} {v : Int32} (h : RO r ns nk hr) (hk : k < nk) (hw : w < 6) (hv : zb v (shB w)) : RO (upd r (30 + 6 * k + w) v) ns nk hr := by
  have F := fun k' w' (h1 : k' < nk) (h2 : w' < 6) => h.fld (k := k') (w := w') h1 h2
  have U : ∀ k' w', k' < nk → w' < 6 → zb (upd r (30 + 6 * k + w) v (30 + 6 * k' + w')) (shB w') := by
    intro k' w' h1 h2
    by_cases q : k' = k ∧ w' = w
    · obtain ⟨rfl, rfl⟩ := q
      rw [upd_hit]; exact hv
    · rw [upd_off (by omega)]; exact F k' w' h1 h2
  obtain ⟨⟨a1, a2⟩, ⟨b1, b2⟩, ⟨c1, c2⟩, d, e, f, g, i⟩ := h
  refine ⟨⟨by rw [upd_off (by omega)]; exact a1, a2⟩, ⟨by rw [upd_off (by omega)]; exact b1, b2⟩, ⟨by rw [upd_off (by omega)]; exact c1, c2⟩, fun c' hc' => ?_, fun s hs => ?_, fun k' hk' => ⟨U k' 0 hk' (by omega), U k' 1 hk' (by omega), U k' 2 hk' (by omega), U k' 3 hk' (by omega), U k' 4 hk' (by omega), U k' 5 hk' (by omega)⟩, ?_, ?_⟩
  · rw [upd_off (by omega)]; exact d c' hc'
  · rw [upd_off (by omega), upd_off (by omega)]; exact e s hs
  · rw [upd_off (by omega), show (fun j => upd r (30 + 6 * k + w) v (142 + j)) = (fun j => r (142 + j)) from funext fun j => upd_off (by omega)]; exact g
  · rw [upd_off (by omega), show (fun j => upd r (30 + 6 * k + w) v (192 + j)) = (fun j => r (192 + j)) from funext fun j => upd_off (by omega)]; exact i
theorem RO.hour {r : Nat → Int32} {ns nk hr hr' : Nat} (h : RO r ns nk hr) (h' : hr' < 20000) : RO (upd r 0 (nI hr')) ns nk hr' := by
  obtain ⟨⟨a1, a2⟩, ⟨b1, b2⟩, ⟨c1, c2⟩, d, e, f, g, i⟩ := h
  refine ⟨⟨by rw [upd_off (by omega)]; exact a1, a2⟩, ⟨by rw [upd_off (by omega)]; exact b1, b2⟩, ⟨upd_hit, h'⟩, fun c' hc' => ?_, fun s hs => ?_, fun k hk => ?_, ?_, ?_⟩
  · rw [upd_off (by omega)]; exact d c' hc'
  · rw [upd_off (by omega), upd_off (by omega)]; exact e s hs
  · rw [upd_off (by omega), upd_off (by omega), upd_off (by omega), upd_off (by omega), upd_off (by omega), upd_off (by omega)]; exact f k hk
  · rw [upd_off (by omega), show (fun j => upd r 0 (nI hr') (142 + j)) = (fun j => r (142 + j)) from funext fun j => upd_off (by omega)]; exact g
  · rw [upd_off (by omega), show (fun j => upd r 0 (nI hr') (192 + j)) = (fun j => r (192 + j)) from funext fun j => upd_off (by omega)]; exact i
theorem RO.tn3 {r : Nat → Int32} {ns nk hr : Nat} (h : RO r ns nk hr) : tn (r 3) = ns := by rw [tn, h.1.1, nI_clamp (by have := h.1.2; omega)]
theorem RO.tn2 {r : Nat → Int32} {ns nk hr : Nat} (h : RO r ns nk hr) : tn (r 2) = nk := by rw [tn, h.2.1.1, nI_clamp (by have := h.2.1.2; omega)]
theorem zb_held {v : Int32} {n : Nat} (hn : n < 2 ^ 31) : zb (heldZ v 0 (nI n)) n := by
  unfold heldZ
  by_cases h1 : v < 0
  · rw [if_pos h1]; exact ⟨0, by omega, nI_0.symm⟩
  · rw [if_neg h1]
    by_cases h2 : nI n < v
    · rw [if_pos h2]; exact ⟨n, Nat.le_refl _, rfl⟩
    · rw [if_neg h2]
      exact (zin_nI hn).mp ⟨nle_lt.mp h1, nle_lt.mp h2⟩
