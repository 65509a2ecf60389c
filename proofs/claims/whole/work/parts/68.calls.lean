/-! ===== what would be ===== -/
def TC (M M1 : Mem) : Prop := only (mo 69) M M1 ∧ M1 70 0 = 99 ∧ M1 75 0 = 1
theorem TC.tr {M M1 M2 : Mem} (h1 : TC M M1) (h2 : TC M1 M2) : TC M M2 := ⟨h1.1.tr h2.1, h2.2⟩
theorem TC.of {M M1 : Mem} {r : Nat → Int32} (ho : only (mo 69) M M1) (hm : MR M1 69 r) : TC M M1 := ⟨ho, hm.2.2.2.2.1.1, hm.2.2.2.2.2.1⟩
theorem TC.off {M M1 : Mem} (h : TC M M1) {b : Nat} (hb : b < 69 ∨ 98 ≤ b) : M1 b = M b := h.1 b (by unfold mo; omega)
theorem INV.tc0 {n : Nat} {M : Mem} (h : INV n M) : TC M M := ⟨only.rf, h.1.2.2.2.1.2⟩
theorem INV.tc {n : Nat} {M M1 : Mem} (h : INV n M) (t : TC M M1) : INV n M1 := by
  obtain ⟨⟨a, b, c, ⟨d1, d2⟩, e, f, g⟩, hA, hz⟩ := h
  have K : ∀ b, (b < 69 ∨ 98 ≤ b) → M1 b = M b := fun b hb => t.off hb
  unfold INV z3
  rw [K 121 (by omega), K 122 (by omega), K 123 (by omega), K 120 (by omega), K 124 (by omega), K 129 (by omega), K 130 (by omega), K 131 (by omega), K 133 (by omega)]
  refine ⟨⟨a.kept hA.1.t (fun b h1 h2 _ => K b (by omega)), by rw [K 0 (by omega)]; exact b, fun z => (c z).kept (hA.2.2.1 z).t (fun b h1 h2 _ => K b (by omega)), ⟨by rw [K 37 (by omega), K 42 (by omega)]; exact d1, t.2⟩, fun k h1 h2 => by rw [K 107 (by omega)]; exact e k h1 h2, fun s hs => ⟨by rw [K _ (by omega)]; exact (f s hs).1, (f s hs).2.kept (K _ (by omega)) (K _ (by omega))⟩, g.kept (K _ (by omega)) (K _ (by omega))⟩, hA, hz⟩
theorem sp_think {n : Nat} {M : Mem} {Q : Mem → Prop} (h : INV n M) (hQ : ∀ M1, TC M M1 → MR M1 69 (M 121) → Q M1) : wp_X9_thinkFromNow 0 M Q := by
  obtain ⟨ns, nk, hr, hR, hh⟩ := h.ro
  unfold wp_X9_thinkFromNow
  refine ⟨by decide, ?_⟩
  exact sp_copyMoor (h := 69) (a := 2) (by decide) (by decide) h.mr hR (by omega) h.1.2.2.2.1.2 (fun M1 hM1 ho => hQ M1 (TC.of ho hM1) hM1)
/-- what the reference leaves behind a thought -/
def FQ (M M' : Mem) : Prop := only scrQ M M' ∧ ∀ i, 242 ≤ i → M' 123 i = M 123 i
theorem FQ.rf {M : Mem} : FQ M M := ⟨only.rf, fun _ _ => rfl⟩
theorem FQ.tr {M M1 M2 : Mem} (h1 : FQ M M1) (h2 : FQ M1 M2) : FQ M M2 := ⟨h1.1.tr h2.1, fun i hi => (h2.2 i hi).trans (h1.2 i hi)⟩
theorem FQ.mu {M : Mem} {k : Nat} {v : Int32} : FQ M (mu M 121 k v) := ⟨only.mu (by unfold scrQ; omega), fun i _ => by rw [mu_ne (by decide)]⟩
theorem FQ.H {M M1 : Mem} (h : only scrH M M1) : FQ M M1 := ⟨scrH_Q h, fun i _ => by rw [h 123 (by unfold scrH; omega)]⟩
theorem FQ.M {M M1 : Mem} (h : only scrM M M1) : FQ M M1 := ⟨scrM_Q h, fun i _ => by rw [h 123 (by unfold scrM; omega)]⟩
theorem FQ.to {M : Mem} : FQ M (mcp M 121 0 123 0 242) := by
  refine ⟨fun b hb => mcp_ne (fun z => hb (by unfold scrQ; omega)), fun i hi => ?_⟩
  rw [mcp_same]
  unfold va_cpy
  rw [if_neg (by omega)]
theorem FQ.back {M : Mem} : FQ M (mcp M 123 0 121 0 242) := ⟨fun b hb => mcp_ne (fun z => hb (by unfold scrQ; omega)), fun i _ => by rw [mcp_ne (by decide)]⟩
theorem back_all {M M1 : Mem} (ho : only scrH (mcp M 121 0 123 0 242) M1) (hb : ∀ i, 242 ≤ i → M1 121 i = M 121 i) : mcp M1 123 0 121 0 242 121 = M 121 ∧ FQ M (mcp M1 123 0 121 0 242) := by
  refine ⟨back_row (r2 := M1 121) hb (fun i hi => ?_) rfl, FQ.to.tr ((FQ.H ho).tr FQ.back)⟩
  rw [ho 123 (by unfold scrH; omega), mcp_same]
  unfold va_cpy
  rw [if_pos (by omega)]
  congr 1
  omega
theorem INV.fq {n : Nat} {M M' : Mem} (h : INV n M) (f : FQ M M') (e : M' 121 = M 121) : INV (n + 1) M' := h.q only.rf (fun _ _ => rfl) f.1 e (fun i hi => (f.2 i hi).trans (h.2.2 i hi).2.2)
theorem fin_errF {n k : Nat} {M M2 : Mem} {e : Int32} (h : INV n M) (h1 : 1 ≤ k) (h5 : k ≤ 5) (he : e = (-1000000000) - nI k) (f : FQ (mu M 107 k (M 107 k + 1)) M2) (e1 : M2 121 = M 121) : wp_X10_errs 120 e M2 (fun r2 M' => (-1000000000) - nI k = r2 ∧ INV (n + 1) M') :=
  fin_errQ h h1 h5 he only.rf (fun _ _ => rfl) f.1 e1 (fun i hi => by rw [f.2 i hi, mu_ne (by decide)]; exact (h.2.2 i hi).2.2)
theorem sp_fb {ns nk hr n : Nat} {M : Mem} {Q : Int32 → Mem → Prop} (hR : RO (M 121) ns nk hr) (hn : hr + n < 20000)
    (hQ : ∀ M', M' 121 = M 121 → FQ M M' → Q (fsZ (passZ ns nk (M 121) n) nk) M') : wp_X10_foundBehind 120 (nI n) M Q := by
  unfold wp_X10_foundBehind
  refine ⟨by decide, sp_moveAll (a := 121) (d := 123) (by omega) (by omega) (by omega) ?_⟩
  have e0 : mcp M 121 0 123 0 242 121 = M 121 := mcp_ne (by decide)
  refine sp_passes (by rw [e0]; exact hR) hn (fun M1 e1 ho => ?_)
  rw [e0] at e1
  refine sp_mFound (by rw [e1]; exact pass_RO hR n hn) ?_
  rw [e1]
  refine sp_moveAll (a := 123) (d := 121) (by omega) (by omega) (by omega) ?_
  obtain ⟨b1, b2⟩ := back_all ho (fun i hi => by rw [e1]; exact pass_out hR hi n hn)
  exact hQ _ b1 b2
/-- what is settled stays -/
theorem ph1_off {r : Nat → Int32} {i : Nat} (hi : 18 ≤ i) : ∀ c, c ≤ 10 → ph1 r c i = r i
  | 0, _ => rfl
  | c + 1, hc => (upd_off (by omega)).trans (ph1_off hi c (by omega))
theorem seek_keep {r : Nat → Int32} {ns nk hr s k w : Nat} (hR : RO r ns nk hr) (hs : s < ns) (hw : w < 6) (h : ¬ soughtZ r k) : (seekP nk r s).1 (30 + 6 * k + w) = r (30 + 6 * k + w) := by
  have n6 := hR.1.2
  have n7 := hR.2.1.2
  unfold seekP
  rcases out_is r s nk with q | ⟨j, q1, q2, q3⟩
  · rw [q, if_pos (by decide)]
  · rw [q2, if_neg (nI_pos (by omega)), tn, nI_clamp (by omega)]
    have hj : j ≠ k := fun z => h (z ▸ q3)
    obtain ⟨c, hc, ec⟩ := hR.fld (w := 2) q1 (by decide)
    have hc : c ≤ 9 := hc
    rw [ec, tn, nI_clamp (by omega)]
    unfold seekA
    split
    · split
      · exact (upd_off (by omega)).trans (upd_off (by omega))
      · exact upd_off (by omega)
    · exact upd_off (by omega)
theorem sought_ext {r r' : Nat → Int32} {k : Nat} (h : ∀ w, w < 6 → r' (30 + 6 * k + w) = r (30 + 6 * k + w)) : soughtZ r' k ↔ soughtZ r k := by
  unfold soughtZ
  rw [h 5 (by omega), h 3 (by omega)]
theorem ph2_keep {r : Nat → Int32} {ns nk hr k : Nat} (hR : RO r ns nk hr) (h : ¬ soughtZ r k) : ∀ s, s ≤ ns → ∀ w, w < 6 → ph2 nk r s (30 + 6 * k + w) = r (30 + 6 * k + w)
  | 0, _, _, _ => rfl
  | s + 1, hs, w, hw => (seek_keep (ph2_RO hR s (by omega)) (by omega) hw (fun z => h ((sought_ext (fun w hw => ph2_keep hR h s (by omega) w hw)).mp z))).trans (ph2_keep hR h s (by omega) w hw)
theorem held0_all : ∀ b, b ≤ 3 → heldZ (0 - nI b) 0 99 = 0 := by decide
theorem frz_keep {r : Nat → Int32} {ns nk hr k j : Nat} (hR : RO r ns nk hr) (hj : j < nk) (h : ¬ soughtZ r k) : frz r j (30 + 6 * k + 5) = r (30 + 6 * k + 5) ∧ ¬ soughtZ (frz r j) k := by
  have e5 : frz r j (30 + 6 * k + 5) = r (30 + 6 * k + 5) := by
    unfold frz
    split
    · exact upd_off (by omega)
    · rfl
  refine ⟨e5, fun z => h ⟨by rw [← e5]; exact z.1, fun z3 => z.2 ?_⟩⟩
  unfold frz
  split
  · by_cases q : j = k
    · subst q
      obtain ⟨b, hb, eb⟩ := cold_le (kd := r (30 + 6 * j + 0)) (m := r (30 + 6 * j + 1)) (hr := r 0) hR.2.2.1.1 (by have := hR.2.2.1.2; omega) (hR.fld (w := 1) hj (by decide))
      rw [upd_hit, z3, eb]
      exact held0_all b hb
    · rw [upd_off (by omega)]; exact z3
  · exact z3
theorem ph3_keep {r : Nat → Int32} {ns nk hr k : Nat} (hR : RO r ns nk hr) (h : ¬ soughtZ r k) : ∀ j, j ≤ nk → ph3 r j (30 + 6 * k + 5) = r (30 + 6 * k + 5) ∧ ¬ soughtZ (ph3 r j) k
  | 0, _ => ⟨rfl, h⟩
  | j + 1, hj => by
    have i := ph3_keep hR h j (by omega)
    have q := frz_keep (j := j) (ph3_RO hR j (by omega)) (by omega) i.2
    exact ⟨q.1.trans i.1, q.2⟩
theorem hour_keep {r : Nat → Int32} {ns nk hr k : Nat} (hR : RO r ns nk hr) (h : ¬ soughtZ r k) : hourZ ns nk r (30 + 6 * k + 5) = r (30 + 6 * k + 5) ∧ ¬ soughtZ (hourZ ns nk r) k := by
  have h1 : ¬ soughtZ (ph1 r 10) k := fun z => h ((sought_ext (fun w _ => ph1_off (by omega) 10 (by omega))).mp z)
  have hR1 := ph1_RO hR 10 (by omega)
  have p2 := ph2_keep hR1 h1 ns (by omega)
  have h2 : ¬ soughtZ (ph2 nk (ph1 r 10) ns) k := fun z => h1 ((sought_ext p2).mp z)
  obtain ⟨a, b⟩ := ph3_keep (ph2_RO hR1 ns (by omega)) h2 nk (by omega)
  have T : ∀ w, w < 6 → hourZ ns nk r (30 + 6 * k + w) = ph3 (ph2 nk (ph1 r 10) ns) nk (30 + 6 * k + w) := fun w _ => upd_off (by omega)
  refine ⟨?_, fun z => b ((sought_ext T).mp z)⟩
  rw [T 5 (by omega), a, p2 5 (by omega), ph1_off (by omega) 10 (by omega)]
theorem pass_keep {r : Nat → Int32} {ns nk hr k p : Nat} (hR : RO r ns nk hr) (h : ¬ soughtZ (passZ ns nk r p) k) : ∀ m, hr + p + m < 20000 → passZ ns nk r (p + m) (30 + 6 * k + 5) = passZ ns nk r p (30 + 6 * k + 5) ∧ ¬ soughtZ (passZ ns nk r (p + m)) k
  | 0, _ => ⟨rfl, h⟩
  | m + 1, hm => by
    have i := pass_keep hR h m (by omega)
    have q := hour_keep (pass_RO hR (p + m) (by omega)) i.2
    exact ⟨q.1.trans i.1, q.2⟩
theorem settle {r : Nat → Int32} {ns nk hr k p n : Nat} (hR : RO r ns nk hr) (hp : p ≤ n) (hn : hr + n < 20000) (h : p = n ∨ ¬ soughtZ (passZ ns nk r p) k) : passZ ns nk r p (30 + 6 * k + 5) = passZ ns nk r n (30 + 6 * k + 5) := by
  rcases h with rfl | h
  · rfl
  · have := (pass_keep hR h (n - p) (by omega)).1
    rw [show p + (n - p) = n from by omega] at this
    exact this.symm
theorem call_saved {n : Nat} {M : Mem} (h : INV n M) : wp_X9_saved 0 M (fun r M1 => wp_X10_saved 120 M1 (fun r2 M2 => r = r2 ∧ INV (n + 1) M2)) := by
  obtain ⟨ns, nk, hr, hR, hh⟩ := h.ro
  unfold wp_X9_saved
  refine ⟨by decide, sp_think h (fun M1 t1 m1 => ?_)⟩
  refine sp_passHours (o := 69) (n := 60) (by decide) m1 hR (by omega) (fun M2 m2 _ o2 => ?_)
  have t2 := t1.tr (TC.of o2 m2)
  refine sp_foundSet (o := 69) (by decide) m2 (pass_RO hR 60 (by omega)) ?_
  have e := t2.off (b := 121) (by omega)
  unfold wp_X10_saved
  refine ⟨by decide, sp_fb (n := 60) (by rw [e]; exact hR) (by omega) (fun M3 e3 f3 => ⟨by rw [e], (h.tc t2).fq f3 e3⟩)⟩
theorem call_then {n : Nat} {M : Mem} (h : INV n M) (a b c : Int32) : wp_X9_then 0 a b c M (fun r M1 => wp_X10_then 120 a b c M1 (fun r2 M2 => r = r2 ∧ INV (n + 1) M2)) := by
  obtain ⟨ns, nk, hr, hR, hh⟩ := h.ro
  have n7 := hR.2.1.2
  have e27 : M 2 7 = nI nk := h.mr.1.2.1.trans hR.2.1.1
  have bad : ¬ (zin a 0 60 ∧ zin b 0 (nI nk - 1) ∧ zin c 0 2) → wp_X9_refuse 0 1 M (fun r M1 => wp_X10_then 120 a b c M1 (fun r2 M2 => r = r2 ∧ INV (n + 1) M2)) := by
    intro hb
    refine sp_refuse (k := 1) (by decide) (by decide) ?_
    unfold wp_X10_then b_X10_then_27
    refine ⟨by decide, ?_⟩
    rw [e_in, e_mSheep, e_in, mu_ne (by decide), hR.2.1.1]
    have fe := fin_err (e := -1000000001) h (k := 1) (by decide) (by decide) rfl
    by_cases h1 : zin a 0 60
    · by_cases h2 : zin b 0 (nI nk - 1)
      · exact b1t h1 (b1t h2 (b2f (fun z => hb ⟨h1, h2, z⟩) fe))
      · exact b1t h1 (b1f h2 fe)
    · exact b1f h1 fe
  unfold wp_X9_then b_X9_then_25
  refine ⟨by decide, ?_⟩
  rw [e_isWithin, e_isSheep, e_isWithin, e27]
  by_cases h1 : zin a 0 60
  · refine b1t h1 ?_
    by_cases h2 : zin b 0 (nI nk - 1)
    · refine b1t h2 ?_
      by_cases h3 : zin c 0 2
      · refine b2t h3 ?_
        obtain ⟨m, hm, rfl⟩ := (zin_nI (n := 60) (by decide)).mp h1
        obtain ⟨k, hk, rfl⟩ := (zin_cnt (by omega)).mp h2
        refine sp_think h (fun M1 t1 m1 => ?_)
        refine sp_passHours (o := 69) (by decide) m1 hR (by omega) (fun M2 m2 _ o2 => ?_)
        have t2 := t1.tr (TC.of o2 m2)
        have e := t2.off (b := 121) (by omega)
        have hRn := pass_RO hR m (by omega)
        have F : ∀ w, w < 6 → M2 (69 + 13 + 9 + k) w = passZ ns nk (M 121) m (30 + 6 * k + w) := fun w hw => m2.2.2.2.1 k (by rw [hRn.tn2]; omega) w hw
        refine ⟨vp_in_nI (by omega) (by decide), ?_⟩
        rw [nI_clamp (by omega)]
        intro q eq
        have eq : q = 69 + 13 + 9 + k := by omega
        subst eq
        rw [F 3 (by decide), F 5 (by decide), F 2 (by decide)]
        obtain ⟨c', hc', ec'⟩ := hRn.fld (k := k) (w := 2) hk (by decide)
        have hc' : c' ≤ 9 := hc'
        have mdl : ∀ v : Int32, (∀ (Q : Int32 → Mem → Prop) (M4 : Mem), M4 121 = passZ ns nk (M 121) m → b_X10_then_92 120 Q v M4 → (¬ c = 0 → (¬ c = 1 → wp_X10_its 120 (nI k) 2 M4 (fun r_18 M_17 => vp_in (8 + r_18) 242 ∧ (b_X10_then_92 120 Q (M_17 (120 + 1) (8 + r_18).toNatClampNeg) M_17))) ∧ (c = 1 → wp_X10_its 120 (nI k) 5 M4 (fun r_21 M_20 => b_X10_then_92 120 Q r_21 M_20))) ∧ (c = 0 → wp_X10_its 120 (nI k) 3 M4 (fun r_23 M_22 => b_X10_then_92 120 Q r_23 M_22))) → wp_X10_then 120 (nI m) (nI k) c M2 (fun r2 M2 => v = r2 ∧ INV (n + 1) M2) := by
          intro v hv
          unfold wp_X10_then
          refine ⟨by decide, ?_⟩
          rw [e_in, e_mSheep, e_in, e, hR.2.1.1]
          refine b1t h1 (b1t h2 (b2t h3 ?_))
          refine sp_moveAll (a := 121) (d := 123) (by omega) (by omega) (by omega) ?_
          have e0 : mcp M2 121 0 123 0 242 121 = M 121 := (mcp_ne (by decide)).trans e
          refine sp_passes (by rw [e0]; exact hR) (by omega) (fun M4 e4 o4 => ?_)
          rw [e0] at e4
          refine hv _ M4 e4 ?_
          unfold b_X10_then_92
          refine sp_moveAll (a := 123) (d := 121) (by omega) (by omega) (by omega) ?_
          obtain ⟨b1, b2⟩ := back_all o4 (fun i hi => by rw [e4, e]; exact pass_out hR hi m (by omega))
          exact ⟨rfl, (h.tc t2).fq b2 b1⟩
        refine ⟨fun z => ?_, fun z => ?_, fun z0 z1 => ?_⟩
        · subst z
          refine mdl _ (fun Q M4 e4 g => ⟨fun z => absurd rfl z, fun _ => sp_its (w := 3) (by omega) (by decide) (by rw [e4]; exact g)⟩)
        · subst z
          obtain ⟨j, hj, ej⟩ := hRn.fld (k := k) (w := 5) hk (by decide)
          have hj : j ≤ 1 := hj
          have : j = 0 ∨ j = 1 := by omega
          have go : ∀ v, v = passZ ns nk (M 121) m (30 + 6 * k + 5) → wp_X10_then 120 (nI m) (nI k) 1 M2 (fun r2 M2 => v = r2 ∧ INV (n + 1) M2) := fun v ev => mdl _ (fun Q M4 e4 g => ⟨fun _ => ⟨fun z => absurd rfl z, fun _ => sp_its (w := 5) (by omega) (by decide) (by rw [e4, ← ev]; exact g)⟩, fun z => absurd z (by decide)⟩)
          rcases this with rfl | rfl
          · exact ⟨fun _ => go 0 (by rw [ej]; rfl), fun z => absurd ej z⟩
          · exact ⟨fun z => absurd (ej.symm.trans z) (by decide), fun _ => go 1 (by rw [ej]; rfl)⟩
        · rw [ec']
          refine sp_snowAt (o := 69) (by decide) (by omega) ?_
          rw [m2.2.1 c' (by omega)]
          refine mdl _ (fun Q M4 e4 g => ⟨fun _ => ⟨fun _ => sp_its (w := 2) (by omega) (by decide) ?_, fun z => absurd z z1⟩, fun z => absurd z z0⟩)
          rw [e4, ec', show (8 : Int32) = nI 8 from rfl, nI_add]
          refine ⟨vp_in_nI (by omega) (by decide), ?_⟩
          rw [nI_clamp (by omega)]
          exact g
      · exact b2f h3 (bad (fun z => h3 z.2.2))
    · exact b1f h2 (bad (fun z => h2 z.2.1))
  · exact b1f h1 (bad (fun z => h1 z.1))
