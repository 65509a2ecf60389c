/-! ===== what holds between calls ===== -/
def RW (r : Nat → Int32) : Prop := ∃ ns nk hr nt nw, RO r ns nk hr ∧ hr ≤ 9999 ∧ (r 4 = nI nt ∧ nt ≤ 50) ∧ (r 5 = nI nw ∧ nw ≤ 20) ∧ ∀ j, j < nt → zb (r (72 + j)) 255
def CI (M : Mem) (r kr : Nat → Int32) (im : Int32) (er bt sz sh tr : Nat → Int32) (tm : Int32) : Prop :=
  WR M 1 r ∧ M 0 7 = im ∧ (¬ im = 0 → WR M 35 kr) ∧ ((M 37 0 = 99 ∧ M 42 0 = 1) ∧ (M 70 0 = 99 ∧ M 75 0 = 1)) ∧ (∀ k, 1 ≤ k → k ≤ 5 → M 107 k = er k) ∧
  (∀ s, s < 4 → M (108 + 3 * s) 1 = bt s ∧ RR M (108 + 3 * s + 1) (sz s) (fun j => sh (40 * s + j))) ∧ RR M 104 tm tr
def AI (n : Nat) (r kr : Nat → Int32) (im kp : Int32) (bt sz : Nat → Int32) (tm : Int32) : Prop :=
  RW r ∧ (∃ ni, ni ≤ n ∧ im = nI ni ∧ kp = (if ni = 0 then 0 else 1)) ∧ (¬ im = 0 → RW kr) ∧ (∀ s, s < 4 → (∃ z, z ≤ 40 ∧ sz s = nI z) ∧ (bt s = 0 ∨ bt s = 8 ∨ bt s = 16 ∨ bt s = 32)) ∧ ∃ t, t ≤ 40 ∧ tm = nI t
def z3 (M : Mem) : Prop := ∀ i, 242 ≤ i → M 121 i = 0 ∧ M 122 i = 0 ∧ M 123 i = 0
def INV (n : Nat) (M : Mem) : Prop := CI M (M 121) (M 122) (M 120 4) (M 124) (M 129) (M 130) (M 131) (M 133) (M 120 21) ∧ AI n (M 121) (M 122) (M 120 4) (M 120 3) (M 129) (M 130) (M 120 21) ∧ z3 M
theorem RW.t {r : Nat → Int32} (h : RW r) : tn (r 3) ≤ 6 ∧ tn (r 2) ≤ 7 := by
  obtain ⟨ns, nk, hr, nt, nw, hR, -⟩ := h
  rw [hR.tn3, hR.tn2]
  exact ⟨hR.1.2, hR.2.1.2⟩
theorem RR.kept {M M' : Mem} {h : Nat} {sz : Int32} {g : Nat → Int32} (r : RR M h sz g) (h1 : M' h = M h) (h2 : M' (h + 1) = M (h + 1)) : RR M' h sz g := ⟨by rw [h1]; exact r.1, fun j hj => by rw [h2]; exact r.2 j hj⟩
theorem WR.kept {M M' : Mem} {w : Nat} {r : Nat → Int32} (h : WR M w r) (ht : tn (r 3) ≤ 6 ∧ tn (r 2) ≤ 7) (hk : ∀ b, w ≤ b → b < w + 34 → ¬ scO (w + 1) b → M' b = M b) : WR M' w r := by
  have K : ∀ b, w ≤ b → b < w + 34 → (b ≠ w + 5 ∧ b ≠ w + 6 ∧ b ≠ w + 10 ∧ b ≠ w + 11 ∧ b ≠ w + 15 ∧ b ≠ w + 16) → M' b = M b := fun b x y z => hk b x y (by unfold scO; omega)
  refine ⟨by rw [K _ (by omega) (by omega) (by omega)]; exact h.1, h.2.1.kept ht.1 ht.2 (fun b h1 h2 h3 => hk b (by omega) (by omega) h3), h.2.2.1.kept (K _ (by omega) (by omega) (by omega)) (K _ (by omega) (by omega) (by omega)), h.2.2.2.kept (K _ (by omega) (by omega) (by omega)) (K _ (by omega) (by omega) (by omega))⟩
/-- cells of the class that no call shows -/
def scC : Nat → Prop := fun b => 120 ≤ b ∨ (69 ≤ b ∧ b < 98 ∧ b ≠ 70 ∧ b ≠ 75) ∨ (98 ≤ b ∧ b ≤ 103) ∨ b = 106 ∨ scO 2 b ∨ scO 36 b
theorem CI.kept {M M' : Mem} {r kr : Nat → Int32} {im : Int32} {er bt sz sh tr : Nat → Int32} {tm : Int32} (h : CI M r kr im er bt sz sh tr tm) (hr : RW r) (hk : ¬ im = 0 → RW kr) (ho : only scC M M') : CI M' r kr im er bt sz sh tr tm := by
  obtain ⟨a, b, c, ⟨⟨d1, d2⟩, ⟨d3, d4⟩⟩, e, f, g⟩ := h
  have K : ∀ b, b < 120 → (b < 69 ∨ b = 70 ∨ b = 75 ∨ 103 < b) → b ≠ 106 → ¬ scO 2 b → ¬ scO 36 b → M' b = M b := fun b h1 h2 h3 h4 h5 => ho b (fun z => by
    rcases z with z | z | z | z | z | z
    · omega
    · omega
    · omega
    · omega
    · exact h4 z
    · exact h5 z)
  have N : ∀ b, (b < 2 ∨ (30 < b ∧ b < 36) ∨ 64 < b) → ¬ scO 2 b ∧ ¬ scO 36 b := fun b hb => ⟨by unfold scO; omega, by unfold scO; omega⟩
  have K2 : ∀ b, b < 120 → (b < 69 ∨ b = 70 ∨ b = 75 ∨ 103 < b) → b ≠ 106 → (b < 2 ∨ (30 < b ∧ b < 36) ∨ 64 < b) → M' b = M b := fun b h1 h2 h3 h4 => K b h1 h2 h3 (N b h4).1 (N b h4).2
  refine ⟨a.kept hr.t (fun b h1 h2 h3 => K b (by omega) (by omega) (by omega) h3 (by unfold scO; omega)), by rw [K2 0 (by omega) (by omega) (by omega) (by omega)]; exact b, fun z => (c z).kept (hk z).t (fun b h1 h2 h3 => K b (by omega) (by omega) (by omega) (by unfold scO; omega) h3), ⟨⟨?_, ?_⟩, ⟨?_, ?_⟩⟩, fun k h1 h2 => ?_, fun s hs => ⟨?_, ?_⟩, ?_⟩
  · rw [K 37 (by omega) (by omega) (by omega) (by unfold scO; omega) (by unfold scO; omega)]; exact d1
  · rw [K 42 (by omega) (by omega) (by omega) (by unfold scO; omega) (by unfold scO; omega)]; exact d2
  · rw [K2 70 (by omega) (by omega) (by omega) (by omega)]; exact d3
  · rw [K2 75 (by omega) (by omega) (by omega) (by omega)]; exact d4
  · rw [K2 107 (by omega) (by omega) (by omega) (by omega)]; exact e k h1 h2
  · rw [K2 _ (by omega) (by omega) (by omega) (by omega)]; exact (f s hs).1
  · exact (f s hs).2.kept (K2 _ (by omega) (by omega) (by omega) (by omega)) (K2 _ (by omega) (by omega) (by omega) (by omega))
  · exact g.kept (K2 _ (by omega) (by omega) (by omega) (by omega)) (K2 _ (by omega) (by omega) (by omega) (by omega))
def sameM (M M' : Mem) : Prop := M' 121 = M 121 ∧ M' 122 = M 122 ∧ M' 124 = M 124 ∧ M' 129 = M 129 ∧ M' 130 = M 130 ∧ M' 131 = M 131 ∧ M' 133 = M 133 ∧ M' 120 3 = M 120 3 ∧ M' 120 4 = M 120 4 ∧ M' 120 21 = M 120 21
theorem sameM.rf {M : Mem} : sameM M M := ⟨rfl, rfl, rfl, rfl, rfl, rfl, rfl, rfl, rfl, rfl⟩
theorem sameM.of {M M' : Mem} (h : ∀ b, 120 ≤ b → M' b = M b) : sameM M M' := ⟨h _ (by decide), h _ (by decide), h _ (by decide), h _ (by decide), h _ (by decide), h _ (by decide), h _ (by decide), by rw [h 120 (by decide)], by rw [h 120 (by decide)], by rw [h 120 (by decide)]⟩
theorem AI.mono {n : Nat} {r kr : Nat → Int32} {im kp : Int32} {bt sz : Nat → Int32} {tm : Int32} (h : AI n r kr im kp bt sz tm) : AI (n + 1) r kr im kp bt sz tm := by
  obtain ⟨a, ⟨ni, b1, b2⟩, c⟩ := h
  exact ⟨a, ⟨ni, by omega, b2⟩, c⟩
theorem INV.mk {n : Nat} {M1 M2 : Mem} {r kr : Nat → Int32} {im kp : Int32} {er bt sz sh tr : Nat → Int32} {tm : Int32} (hC : CI M1 r kr im er bt sz sh tr tm) (hA : AI n r kr im kp bt sz tm) (ho : ∀ b, b < 120 → M2 b = M1 b)
    (e : M2 121 = r ∧ M2 122 = kr ∧ M2 124 = er ∧ M2 129 = bt ∧ M2 130 = sz ∧ M2 131 = sh ∧ M2 133 = tr ∧ M2 120 3 = kp ∧ M2 120 4 = im ∧ M2 120 21 = tm) (hz : z3 M2) : INV n M2 := by
  obtain ⟨rfl, rfl, rfl, rfl, rfl, rfl, rfl, rfl, rfl, rfl⟩ := e
  exact ⟨hC.kept hA.1 hA.2.2.1 (fun b hb => ho b (by unfold scC at hb; omega)), hA, hz⟩
/-- a call that only asks -/
theorem INV.ask {n : Nat} {M M1 M2 : Mem} (h : INV n M) (h1 : only scC M M1) (h2 : ∀ b, 120 ≤ b → M1 b = M b) (h3 : ∀ b, b < 120 → M2 b = M1 b) (h4 : sameM M1 M2) (hz : z3 M2) : INV (n + 1) M2 := by
  obtain ⟨hC, hA, -⟩ := h
  have s := sameM.of h2
  refine INV.mk (hC.kept hA.1 hA.2.2.1 h1) hA.mono h3 ?_ hz
  obtain ⟨a1, a2, a3, a4, a5, a6, a7, a8, a9, a10⟩ := h4
  obtain ⟨b1, b2, b3, b4, b5, b6, b7, b8, b9, b10⟩ := s
  exact ⟨a1.trans b1, a2.trans b2, a3.trans b3, a4.trans b4, a5.trans b5, a6.trans b6, a7.trans b7, a8.trans b8, a9.trans b9, a10.trans b10⟩
theorem INV.pure {n : Nat} {M : Mem} (h : INV n M) : INV (n + 1) M := h.ask only.rf (fun _ _ => rfl) (fun _ _ => rfl) sameM.rf h.2.2
/-- refusals -/
theorem sp_refuse {k : Nat} {M : Mem} {Q : Int32 → Mem → Prop} (h1 : 1 ≤ k) (h2 : k ≤ 5) (hQ : Q ((-1000000000) - nI k) (mu M 107 k (M 107 k + 1))) : wp_X9_refuse 0 (nI k) M Q := by
  unfold wp_X9_refuse
  refine ⟨by decide, ?_⟩
  have fin : b_X9_refuse_20 0 Q (nI k) (mu M 107 k (M 107 k + 1)) := by
    unfold b_X9_refuse_20
    exact hQ
  have a1 : ¬ nI k < 1 := fun z => nI_nlt (a := k) (b := 1) h1 (by omega) z
  have a2 : ¬ (5 : Int32) < nI k := fun z => nI_nlt (a := 5) (b := k) h2 (by omega) z
  refine br_f a1 (br_f a2 ?_)
  refine ⟨vp_in_nI (by omega) (by decide), vp_in_nI (by omega) (by decide), ?_⟩
  rw [nI_clamp (by omega)]
  intro M1 e1
  subst e1
  exact fin
theorem sp_errs {k : Nat} {e : Int32} {M : Mem} {Q : Int32 → Mem → Prop} (h2 : k ≤ 5) (he : (-1000000000) - e = nI k) (hQ : Q e (mu M 124 k (M 124 k + 1))) : wp_X10_errs 120 e M Q := by
  unfold wp_X10_errs
  rw [he]
  refine ⟨by decide, vp_in_nI (by omega) (by decide), vp_in_nI (by omega) (by decide), ?_⟩
  rw [nI_clamp (by omega)]
  intro M1 e1
  subst e1
  exact hQ
theorem err_val : ∀ k, 1 ≤ k → k ≤ 5 → (-1000000000 : Int32) - ((-1000000000) - nI k) = nI k := by
  intro k h1 h2
  have : k = 1 ∨ k = 2 ∨ k = 3 ∨ k = 4 ∨ k = 5 := by omega
  rcases this with rfl | rfl | rfl | rfl | rfl <;> decide
/-- M1: what the class left, M2: what the reference left, an ERROR k -/
theorem INV.err {n k : Nat} {M M1 M2 : Mem} (h : INV n M) (h1 : 1 ≤ k) (h5 : k ≤ 5) (hc : only scC M M1) (hm : ∀ b, 120 ≤ b → M1 b = M b) (hM2 : ∀ b, b < 120 → M2 b = (mu M1 107 k (M1 107 k + 1)) b) (hs : sameM M1 M2) (hz : z3 M2) : INV (n + 1) (mu M2 124 k (M2 124 k + 1)) := by
  obtain ⟨hC, hA, -⟩ := h
  have hC1 := hC.kept hA.1 hA.2.2.1 hc
  obtain ⟨a, b, c, d, e, f, g⟩ := hC1
  obtain ⟨b1, b2, b3, b4, b5, b6, b7, b8, b9, b10⟩ := sameM.of hm
  obtain ⟨a1, a2, a3, a4, a5, a6, a7, a8, a9, a10⟩ := hs
  have e107 : M1 107 k = M 124 k := e k h1 h5
  have hC2 : CI (mu M1 107 k (M1 107 k + 1)) (M 121) (M 122) (M 120 4) (upd (M 124) k (M 124 k + 1)) (M 129) (M 130) (M 131) (M 133) (M 120 21) := by
    refine ⟨a.kept hA.1.t (fun b _ _ _ => mu_ne (by omega)), by rw [mu_ne (by decide)]; exact b, fun z => (c z).kept (hA.2.2.1 z).t (fun b _ _ _ => mu_ne (by omega)), ?_, fun j h3 h4 => ?_, fun s hs => ?_, g.kept (mu_ne (by decide)) (mu_ne (by decide))⟩
    · rw [mu_ne (by decide), mu_ne (by decide), mu_ne (by decide), mu_ne (by decide)]; exact d
    · by_cases q : j = k
      · subst q; rw [mu_hit, upd_hit, e107]
      · rw [mu_off q, upd_off q]; exact e j h3 h4
    · rw [mu_ne (by omega)]
      exact ⟨(f s hs).1, (f s hs).2.kept (mu_ne (by omega)) (mu_ne (by omega))⟩
  refine INV.mk hC2 hA.mono (fun b hb => by rw [mu_ne (by omega)]; exact hM2 b hb) ⟨?_, ?_, ?_, ?_, ?_, ?_, ?_, ?_, ?_, ?_⟩ (fun i hi => ?_)
  · rw [mu_ne (by decide)]; exact a1.trans b1
  · rw [mu_ne (by decide)]; exact a2.trans b2
  · rw [mu_same, a3, b3]
  · rw [mu_ne (by decide)]; exact a4.trans b4
  · rw [mu_ne (by decide)]; exact a5.trans b5
  · rw [mu_ne (by decide)]; exact a6.trans b6
  · rw [mu_ne (by decide)]; exact a7.trans b7
  · rw [mu_ne (by decide)]; exact a8.trans b8
  · rw [mu_ne (by decide)]; exact a9.trans b9
  · rw [mu_ne (by decide)]; exact a10.trans b10
  · rw [mu_ne (by decide), mu_ne (by decide), mu_ne (by decide)]; exact hz i hi
/-- the same, at once refused -/
theorem INV.err0 {n k : Nat} {M : Mem} (h : INV n M) (h1 : 1 ≤ k) (h5 : k ≤ 5) : INV (n + 1) (mu (mu M 107 k (M 107 k + 1)) 124 k ((mu M 107 k (M 107 k + 1)) 124 k + 1)) :=
  h.err h1 h5 only.rf (fun _ _ => rfl) (fun _ _ => rfl) (sameM.of (fun b hb => mu_ne (by omega))) (fun i hi => by rw [mu_ne (by decide), mu_ne (by decide), mu_ne (by decide)]; exact h.2.2 i hi)
/-- another row -/
theorem INV.row {n : Nat} {M M1 M2 : Mem} {r : Nat → Int32} (h : INV n M) (hr : RW r) (hw : WR M1 1 r) (hc : ∀ b, b < 120 → ¬ (1 ≤ b ∧ b < 35) → ¬ scC b → M1 b = M b) (h3 : ∀ b, b < 120 → M2 b = M1 b) (hs : sameM M (fun b => if b = 121 then M 121 else M2 b)) (e : M2 121 = r) (hz : z3 M2) : INV (n + 1) M2 := by
  obtain ⟨hC, hA, -⟩ := h
  obtain ⟨a, b, c, ⟨⟨d1, d2⟩, ⟨d3, d4⟩⟩, e', f, g⟩ := hC
  have K : ∀ b, b < 120 → 35 ≤ b → (b < 69 ∨ b = 70 ∨ b = 75 ∨ 103 < b) → b ≠ 106 → ¬ scO 36 b → M1 b = M b := fun b h1 h2 h3 h4 h5 => hc b h1 (by omega) (fun z => by
    rcases z with z | z | z | z | z | z
    · omega
    · omega
    · omega
    · omega
    · unfold scO at z; omega
    · exact h5 z)
  have N : ∀ b, (b < 36 ∨ 64 < b) → ¬ scO 36 b := fun b hb => by unfold scO; omega
  have hC1 : CI M1 r (M 122) (M 120 4) (M 124) (M 129) (M 130) (M 131) (M 133) (M 120 21) := by
    refine ⟨hw, ?_, fun z => (c z).kept (hA.2.2.1 z).t (fun b h1 h2 h3 => K b (by omega) (by omega) (by omega) (by omega) h3), ⟨⟨?_, ?_⟩, ⟨?_, ?_⟩⟩, fun k h1 h2 => ?_, fun s hs => ⟨?_, ?_⟩, ?_⟩
    · rw [hc 0 (by omega) (by omega) (by unfold scC scO; omega)]; exact b
    · rw [K 37 (by omega) (by omega) (by omega) (by omega) (by unfold scO; omega)]; exact d1
    · rw [K 42 (by omega) (by omega) (by omega) (by omega) (by unfold scO; omega)]; exact d2
    · rw [K 70 (by omega) (by omega) (by omega) (by omega) (N _ (by omega))]; exact d3
    · rw [K 75 (by omega) (by omega) (by omega) (by omega) (N _ (by omega))]; exact d4
    · rw [K 107 (by omega) (by omega) (by omega) (by omega) (N _ (by omega))]; exact e' k h1 h2
    · rw [K _ (by omega) (by omega) (by omega) (by omega) (N _ (by omega))]; exact (f s hs).1
    · exact (f s hs).2.kept (K _ (by omega) (by omega) (by omega) (by omega) (N _ (by omega))) (K _ (by omega) (by omega) (by omega) (by omega) (N _ (by omega)))
    · exact g.kept (K _ (by omega) (by omega) (by omega) (by omega) (N _ (by omega))) (K _ (by omega) (by omega) (by omega) (by omega) (N _ (by omega)))
  obtain ⟨-, a2, a3, a4, a5, a6, a7, a8, a9, a10⟩ := hs
  exact INV.mk hC1 ⟨hr, hA.mono.2⟩ h3 ⟨e, a2, a3, a4, a5, a6, a7, a8, a9, a10⟩ hz
