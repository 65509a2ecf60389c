/-! ===== as, law, hours, loose, count ===== -/
def abvN (k : Nat) : Nat := if k = 0 then 9 else if k ≤ 3 then 0 else k - 3
/-- of that KIND, or of one under it: by at most three steps up -/
def ofK (k q : Nat) : Bool := k == q || (k != 0 && (abvN k == q || (abvN k != 0 && abvN (abvN k) == q)))
theorem abv2 : ∀ k, k ≤ 6 → k ≠ 0 → abvN k ≠ 0 → abvN (abvN k) = 0 := by decide
theorem of3a : ∀ k, k ≤ 6 → k ≠ 0 → abvN k ≠ 0 → ofK k 0 = true := by decide
theorem of3 (k : Nat) (hk : k ≤ 6) (q : Nat) (_ : q ≤ 6) (k0 : k ≠ 0) (k1 : abvN k ≠ 0) (e : 0 = q) : ofK k q = true := by subst e; exact of3a k hk k0 k1
theorem KA_all : ∀ k, k ≤ 6 → KA k = if k = 0 then -1 else nI (abvN k) := by decide
theorem sp_isOfKind {k q : Nat} {M : Mem} {Q : Int32 → Mem → Prop} (hk : k ≤ 6) (hq : q ≤ 6) (h1 : ofK k q = true → Q 1 M) (h0 : ofK k q = false → Q 0 M) : wp_X9_isOfKind (nI k) (nI q) M Q := by
  have inz : ∀ j, j ≤ 6 → zin (nI j) 0 6 := fun j hj => (zin_nI (n := 6) (by decide)).mpr ⟨j, hj, rfl⟩
  have stp : ∀ (m i j : Nat), i < 7 → j ≤ 6 → (j = q → Q 1 M) → (j ≠ q → l_X9_isOfKind_4 Q (nI q) m (KA j) (nI (i + 1)) M) → l_X9_isOfKind_4 Q (nI q) (m + 1) (nI j) (nI i) M := by
    intro m i j hi hj hy hn
    show B_X9_isOfKind_4 Q _ _ _ _ _
    unfold B_X9_isOfKind_4
    refine br_f (fun z => nI_ge (a := i) (b := 7) hi (by decide) z) ?_
    rw [e_isWithin]
    refine b1t (inz j hj) ⟨fun z => ⟨vp_in_nI (by omega) (by decide), ?_⟩, fun z => hy ((nI_eq (by omega) (by omega)).mp z)⟩
    intro x ex y ey
    rw [nI_clamp (by omega)] at ex
    rw [nI_1] at ey
    subst ex ey
    exact hn (fun e => z (by rw [e]))
  have stop : ∀ (m i : Nat), i < 7 → Q 0 M → l_X9_isOfKind_4 Q (nI q) (m + 1) (-1) (nI i) M := by
    intro m i hi hQ
    show B_X9_isOfKind_4 Q _ _ _ _ _
    unfold B_X9_isOfKind_4
    refine br_f (fun z => nI_ge (a := i) (b := 7) hi (by decide) z) ?_
    rw [e_isWithin]
    exact b1f (by decide) hQ
  refine ⟨4, ?_⟩
  have e0 : (0 : Int32) = nI 0 := rfl
  rw [e0]
  refine stp 3 0 k (by decide) hk (fun e => h1 (by simp [ofK, e])) (fun ne => ?_)
  rw [KA_all k hk]
  by_cases k0 : k = 0
  · rw [if_pos k0]
    refine stop 2 1 (by decide) (h0 ?_)
    subst k0; simp [ofK]; omega
  · rw [if_neg k0]
    have ka : abvN k ≤ 6 := by unfold abvN; split <;> (try split) <;> omega
    refine stp 2 1 (abvN k) (by decide) ka (fun e => h1 (by simp [ofK, e, k0])) (fun ne2 => ?_)
    rw [KA_all _ ka]
    by_cases k1 : abvN k = 0
    · rw [if_pos k1]
      exact stop 1 2 (by decide) (h0 (by simp [ofK, ne, k1]; omega))
    · rw [if_neg k1]
      have kb : abvN (abvN k) = 0 := abv2 k hk k0 k1
      rw [kb]
      refine stp 1 2 0 (by decide) (by omega) (fun e => h1 (of3 k hk q hq k0 k1 e)) (fun ne3 => ?_)
      rw [KA_all 0 (by decide), if_pos rfl]
      exact stop 0 3 (by decide) (h0 (by simp [ofK, ne, ne2, kb]; omega))
theorem sp_above {k : Nat} {M : Mem} {Q : Int32 → Mem → Prop} (hk : k ≤ 6) (h0 : k = 0 → Q (-1) M) (h1 : k ≠ 0 → Q (nI (abvN k)) M) : wp_X10_above (nI k) M Q := by
  unfold wp_X10_above
  by_cases k0 : k = 0
  · subst k0
    exact ⟨fun z => absurd rfl z, fun _ => h0 rfl⟩
  · refine ⟨fun _ => ?_, fun z => absurd ((nI_eq (b := 0) (by omega) (by decide)).mp z) k0⟩
    have h2 := h1 k0
    by_cases k3 : k ≤ 3
    · refine br_t (show nI k ≤ 3 from nI_le (b := 3) k3 (by decide)) ?_
      rw [show abvN k = 0 from by unfold abvN; rw [if_neg k0, if_pos k3]] at h2
      exact h2
    · refine br_f (fun z => nI_ge (a := 3) (b := k) (by omega) (by omega) z) ?_
      rw [show abvN k = k - 3 from by unfold abvN; rw [if_neg k0, if_neg k3], ← pk_sub (by omega)] at h2
      exact h2
theorem call_as {n : Nat} {M : Mem} (h : INV n M) (a w : Int32) : wp_X9_as 0 a w M (fun r M1 => wp_X10_as 120 a w M1 (fun r2 M2 => r = r2 ∧ INV (n + 1) M2)) := by
  obtain ⟨ns, nk, hr, hR, hh⟩ := h.ro
  have n7 := hR.2.1.2
  have t2 := hR.tn2
  have e27 : M 2 7 = nI nk := h.mr.1.2.1.trans hR.2.1.1
  have bad : ¬ (zin a 0 (nI nk - 1) ∧ zin w 0 6) → wp_X9_refuse 0 1 M (fun r M1 => wp_X10_as 120 a w M1 (fun r2 M2 => r = r2 ∧ INV (n + 1) M2)) := by
    intro hb
    refine sp_refuse (k := 1) (by decide) (by decide) ?_
    unfold wp_X10_as b_X10_as_18
    refine ⟨by decide, ?_⟩
    rw [e_mSheep, e_in, mu_ne (by decide), hR.2.1.1]
    have fe := fin_err (e := -1000000001) h (k := 1) (by decide) (by decide) rfl
    by_cases h1 : zin a 0 (nI nk - 1)
    · exact b1t h1 (b2f (fun z => hb ⟨h1, z⟩) fe)
    · exact b1f h1 fe
  unfold wp_X9_as b_X9_as_17
  refine ⟨by decide, ?_⟩
  rw [e_isSheep, e27, e_isWithin]
  by_cases h1 : zin a 0 (nI nk - 1)
  · refine b1t h1 ?_
    obtain ⟨k, hk, rfl⟩ := (zin_cnt (by omega)).mp h1
    by_cases h2 : zin w 0 6
    · refine b2t h2 ⟨vp_in_nI (by omega) (by decide), ?_⟩
      rw [nI_clamp (by omega)]
      intro q eq
      have eq : q = 2 + 13 + 9 + k := eq
      subst eq
      have F : ∀ w, w < 6 → M (2 + 13 + 9 + k) w = M 121 (30 + 6 * k + w) := fun w hw => h.mr.2.2.2.1 k (by rw [t2]; exact hk) w hw
      obtain ⟨kd, hkd, ekd⟩ := hR.fld (w := 0) hk (by decide)
      have hkd : kd ≤ 6 := hkd
      obtain ⟨wn, hwn, rfl⟩ := (zin_nI (n := 6) (by decide)).mp h2
      rw [F 0 (by decide), ekd]
      -- the reference
      have ref : ∀ (M1 : Mem) (Q : Int32 → Mem → Prop), M1 121 = M 121 → (ofK kd wn = true → Q (M 121 (30 + 6 * k + 1)) M1) → (ofK kd wn = false → wp_X10_errs 120 (-1000000005) M1 (fun r_5 M_4 => Q r_5 M_4)) → wp_X10_as 120 (nI k) (nI wn) M1 Q := by
        intro M1 Q e1 hy hn
        unfold wp_X10_as
        refine ⟨by decide, ?_⟩
        rw [e_mSheep, e_in, e1, hR.2.1.1]
        refine b1t h1 (b2t h2 (sp_its (w := 0) (by omega) (by decide) ?_))
        rw [e1, show M 121 (30 + 6 * k + 0) = nI kd from ekd]
        have yes : ∀ j, j ≤ 6 → ofK kd wn = true → b_X10_as_49 120 Q (nI k) (nI j) M1 := fun j hj hb => by
          unfold b_X10_as_49
          exact br_t (nI_pos' (by omega)) (sp_its (w := 1) (by omega) (by decide) (by rw [e1]; exact hy hb))
        have stp : ∀ (m j : Nat), j ≤ 6 → (j = wn → ofK kd wn = true) → (j ≠ wn → (j = 0 → l_X10_as_32 120 Q (nI k) (nI wn) m (-1) M1) ∧ (j ≠ 0 → l_X10_as_32 120 Q (nI k) (nI wn) m (nI (abvN j)) M1)) → l_X10_as_32 120 Q (nI k) (nI wn) (m + 1) (nI j) M1 := by
          intro m j hj h3 h4
          show B_X10_as_32 120 Q _ _ _ _ _
          unfold B_X10_as_32
          refine br_f (nI_pos (by omega)) ⟨fun z => yes j hj (h3 ((nI_eq (by omega) (by omega)).mp z)), fun z => ?_⟩
          have hne : j ≠ wn := fun e => z (by rw [e])
          exact sp_above hj (h4 hne).1 (h4 hne).2
        have stop : ∀ m, ofK kd wn = false → l_X10_as_32 120 Q (nI k) (nI wn) (m + 1) (-1) M1 := by
          intro m hb
          show B_X10_as_32 120 Q _ _ _ _ _
          unfold B_X10_as_32 b_X10_as_49
          exact br_t (by decide) (br_f (by decide) (hn hb))
        refine ⟨4, stp 3 kd hkd (fun e => by simp [ofK, e]) (fun ne => ⟨fun z => stop 2 (by subst z; simp [ofK]; omega), fun k0 => ?_⟩)⟩
        have ka : abvN kd ≤ 6 := by unfold abvN; split <;> (try split) <;> omega
        refine stp 2 _ ka (fun e => by simp [ofK, e, k0]) (fun ne2 => ⟨fun z => stop 1 (by simp [ofK, ne, z]; omega), fun k1 => ?_⟩)
        have kb : abvN (abvN kd) = 0 := abv2 kd hkd k0 k1
        rw [kb]
        exact stp 1 0 (by omega) (fun e => of3 kd hkd wn hwn k0 k1 e) (fun ne3 => ⟨fun _ => stop 0 (by simp [ofK, ne, ne2, kb]; omega), fun z => absurd rfl z⟩)
      refine sp_isOfKind hkd hwn (fun hb => ?_) (fun hb => ?_)
      · refine ⟨fun z => absurd z (by decide), fun _ => ?_⟩
        rw [F 1 (by decide)]
        exact ref M _ rfl (fun _ => ⟨rfl, h.pure⟩) (fun hb2 => by rw [hb] at hb2; cases hb2)
      · refine ⟨fun _ => ?_, fun z => absurd rfl z⟩
        refine sp_refuse (k := 5) (by decide) (by decide) ?_
        exact ref _ _ (mu_ne (by decide)) (fun hb2 => by rw [hb] at hb2; cases hb2) (fun _ => fin_err (e := -1000000005) h (k := 5) (by decide) (by decide) rfl)
    · exact b2f h2 (bad (fun z => h2 z.2))
  · exact b1f h1 (bad (fun z => h1 z.1))
theorem scrM_Q {M1 M2 : Mem} (h : only scrM M1 M2) : only scrQ M1 M2 := h.mono (fun b z => by unfold scrM at z; unfold scrQ; omega)
theorem scrH_Q {M1 M2 : Mem} (h : only scrH M1 M2) : only scrQ M1 M2 := h.mono (fun b z => by unfold scrH at z; unfold scrQ; omega)
theorem call_law {n : Nat} {M : Mem} (h : INV n M) (u a b c : Int32) : wp_X9_law 0 u a b c M (fun r M1 => wp_X10_law 120 u a b c M1 (fun r2 M2 => r = r2 ∧ INV (n + 1) M2)) := by
  obtain ⟨ns, nk, hr, hR, hh⟩ := h.ro
  unfold wp_X9_law
  refine ⟨by decide, ?_⟩
  rw [e_isWithin]
  by_cases h1 : zin u 0 1
  · refine b2t h1 ?_
    obtain ⟨j, hj, rfl⟩ := (zin_nI (n := 1) (by decide)).mp h1
    have fin : ∀ (j : Nat) (mst : Int32) (g : Nat → Int32) (M1 : Mem) (x : Int32), j ≤ 1 → only scC M M1 → (∀ b, 120 ≤ b → M1 b = M b) → mst = (if j = 0 then 99 else 1) → (∀ i, i < 50 → M 121 (142 + 50 * j + i) = g i) → codeOK (M 121 (6 + j)) g → x = lawZ mst (M 121 (6 + j)) g a b c → wp_X10_law 120 (nI j) a b c M1 (fun r2 M2 => x = r2 ∧ INV (n + 1) M2) := by
      intro j mst g M1 x hj hc hi em eg ec ex
      unfold wp_X10_law
      refine ⟨by decide, ?_⟩
      rw [e_in]
      refine b1t ((zin_nI (n := 1) (by decide)).mpr ⟨j, hj, rfl⟩) ?_
      refine sp_mLaw (u := j) (mst := mst) (g := g) (by omega) em (fun i hi2 => by rw [hi 121 (by decide)]; exact eg i hi2) (by rw [hi 121 (by decide)]; exact ec) (fun M2 ho2 => ?_)
      rw [hi 121 (by decide)]
      refine ⟨ex, h.q hc hi (scrM_Q ho2) (ho2 121 (by unfold scrM; omega)) (fun i hi2 => ?_)⟩
      rw [ho2 123 (by unfold scrM; omega), hi 123 (by decide)]
      exact (h.2.2 i hi2).2.2
    unfold wp_X1_lawOf
    have : j = 0 ∨ j = 1 := by omega
    rcases this with rfl | rfl
    · refine ⟨by decide, fun z => absurd rfl z, fun _ => ⟨by decide, ?_⟩⟩
      refine sp_gives (q := 3) (mst := 99) (sz := M 121 6) (g := fun j => M 121 (142 + j)) (by decide) h.mr.2.2.2.2.1 hR.2.2.2.2.2.2.1 (by decide) (fun M1 ho => ?_)
      exact fin 0 99 _ M1 _ (by decide) (ho.mono (fun b z => by unfold scrL at z; unfold scC scO; omega)) (fun b hb => ho b (by unfold scrL; omega)) rfl (fun i _ => by rw [show 142 + 50 * 0 + i = 142 + i from by omega]) hR.2.2.2.2.2.2.1 rfl
    · refine ⟨by decide, fun _ => ⟨by decide, ?_⟩, fun z => absurd z (by decide)⟩
      refine sp_gives (q := 8) (mst := 1) (sz := M 121 7) (g := fun j => M 121 (192 + j)) (by decide) h.mr.2.2.2.2.2 hR.2.2.2.2.2.2.2 (by decide) (fun M1 ho => ?_)
      exact fin 1 1 _ M1 _ (by decide) (ho.mono (fun b z => by unfold scrL at z; unfold scC scO; omega)) (fun b hb => ho b (by unfold scrL; omega)) rfl (fun i _ => by rw [show 142 + 50 * 1 + i = 192 + i from by omega]) hR.2.2.2.2.2.2.2 rfl
  · refine b2f h1 (sp_refuse (k := 1) (by decide) (by decide) ?_)
    unfold wp_X10_law
    refine ⟨by decide, ?_⟩
    rw [e_in]
    exact b1f h1 (fin_err (e := -1000000001) h (k := 1) (by decide) (by decide) rfl)
theorem zin1 {a : Int32} {m : Nat} (hm : m < 2 ^ 31) : zin a 1 (nI m) ↔ ∃ k, 1 ≤ k ∧ k ≤ m ∧ a = nI k := by
  constructor
  · intro h
    have h0 : zin a 0 (nI m) := ⟨i_le.mpr (Int.le_trans (by decide) (i_le.mp h.1)), h.2⟩
    obtain ⟨k, hk, rfl⟩ := (zin_nI hm).mp h0
    refine ⟨k, ?_, hk, rfl⟩
    have := h.1
    rw [show (1 : Int32) = nI 1 from rfl, nI_leI (by decide) (by omega)] at this
    exact this
  · rintro ⟨k, h1, h2, rfl⟩
    exact ⟨nI_le (a := 1) h1 (by omega), nI_le h2 hm⟩
theorem idx_hour : ∀ i, (i = 1 ∨ i = 4 ∨ i = 5 ∨ (72 ≤ i ∧ i < 142)) → i < 8 ∨ 72 ≤ i := by omega
/-- the numbers that no HOUR touches -/
theorem seek_low {r : Nat → Int32} {ns nk hr s i : Nat} (hR : RO r ns nk hr) (hs : s < ns) (hi : i < 8 ∨ 72 ≤ i) : (seekP nk r s).1 i = r i := by
  have n6 := hR.1.2
  have n7 := hR.2.1.2
  unfold seekP
  rcases out_is r s nk with q | ⟨k, q1, q2, q3⟩
  · rw [q, if_pos (by decide)]
  · rw [q2, if_neg (nI_pos (by omega)), tn, nI_clamp (by omega)]
    obtain ⟨c, hc, ec⟩ := hR.fld (w := 2) q1 (by decide)
    have hc : c ≤ 9 := hc
    rw [ec, tn, nI_clamp (by omega)]
    unfold seekA digZ goZ
    split
    · split
      · exact (upd_off (by omega)).trans (upd_off (by omega))
      · exact upd_off (by omega)
    · exact upd_off (by omega)
theorem hour_low {r : Nat → Int32} {ns nk hr i : Nat} (hR : RO r ns nk hr) (hi : i < 8 ∨ 72 ≤ i) (h0 : i ≠ 0) : hourZ ns nk r i = r i := by
  have n7 := hR.2.1.2
  have p1 : ∀ c, c ≤ 10 → ph1 r c i = r i := fun c => by
    induction c with
    | zero => intro _; rfl
    | succ c ih => intro hc; exact (upd_off (by omega)).trans (ih (by omega))
  have hR1 := ph1_RO hR 10 (by omega)
  have p2 : ∀ s, s ≤ ns → ph2 nk (ph1 r 10) s i = ph1 r 10 i := fun s => by
    induction s with
    | zero => intro _; rfl
    | succ s ih => intro hs; exact (seek_low (ph2_RO hR1 s (by omega)) (by omega) hi).trans (ih (by omega))
  have p3 : ∀ k, k ≤ nk → ph3 (ph2 nk (ph1 r 10) ns) k i = ph2 nk (ph1 r 10) ns i := fun k => by
    induction k with
    | zero => intro _; rfl
    | succ k ih =>
      intro hk
      show frz _ k i = _
      unfold frz
      split
      · exact (upd_off (by omega)).trans (ih (by omega))
      · exact ih (by omega)
  unfold hourZ tick
  rw [upd_off h0, p3 nk (by omega), p2 ns (by omega), p1 10 (by omega)]
theorem pass_low {r : Nat → Int32} {ns nk hr i : Nat} (hR : RO r ns nk hr) (hi : i < 8 ∨ 72 ≤ i) (h0 : i ≠ 0) : ∀ n, hr + n < 20000 → passZ ns nk r n i = r i
  | 0, _ => rfl
  | n + 1, hn => (hour_low (pass_RO hR n (by omega)) hi h0).trans (pass_low hR hi h0 n (by omega))
theorem mo_scC {M M' : Mem} (h : only (mo 2) M M') : ∀ b, 120 ≤ b → M' b = M b := fun b hb => h b (by unfold mo; omega)
theorem INV.moorQ {n : Nat} {M M1 M2 : Mem} {r : Nat → Int32} (h : INV n M) (hr : RW r) (hm : MR M1 2 r) (ho : only (mo 2) M M1) (hi : ∀ i, (i = 1 ∨ i = 4 ∨ i = 5 ∨ (72 ≤ i ∧ i < 142)) → r i = M 121 i) (h3 : only scrQ M1 M2) (e : M2 121 = r) (hz : ∀ i, 242 ≤ i → r i = 0) (hz2 : ∀ i, 242 ≤ i → M2 123 i = 0) : INV (n + 1) M2 := by
  have K : ∀ b, 120 ≤ b → ¬ scrQ b → M2 b = M b := fun b hb hq => by rw [h3 b hq, mo_scC ho b hb]
  refine h.row hr (h.1.1.set h.2.1.1 hm (fun b hb => ho b (by unfold mo; omega)) hi) (fun b h1 h2 _ => ho b (by unfold mo; omega)) (fun b hb => h3 b (by unfold scrQ; omega)) ?_ e (fun i hi => ?_)
  · refine ⟨by simp, ?_, ?_, ?_, ?_, ?_, ?_, ?_, ?_, ?_⟩
    all_goals (simp; rw [K _ (by decide) (by unfold scrQ; omega)])
  · rw [e, K 122 (by decide) (by unfold scrQ; omega)]
    exact ⟨hz i hi, (h.2.2 i hi).2.1, hz2 i hi⟩
theorem call_hours {n : Nat} {M : Mem} (h : INV n M) (a : Int32) : wp_X9_hours 0 a M (fun r M1 => wp_X10_hours 120 a M1 (fun r2 M2 => r = r2 ∧ INV (n + 1) M2)) := by
  obtain ⟨ns, nk, hr, hR, hh⟩ := h.ro
  have e28 : M (0 + 1 + 1) 8 = nI hr := h.mr.1.1.trans hR.2.2.1.1
  have bad : ¬ zin a 1 60 → wp_X9_refuse 0 1 M (fun r M1 => wp_X10_hours 120 a M1 (fun r2 M2 => r = r2 ∧ INV (n + 1) M2)) := by
    intro hb
    refine sp_refuse (k := 1) (by decide) (by decide) ?_
    unfold wp_X10_hours
    refine ⟨by decide, ?_⟩
    rw [e_in]
    exact b2f hb (fin_err (e := -1000000001) h (k := 1) (by decide) (by decide) rfl)
  unfold wp_X9_hours b_X9_hours_11
  refine ⟨by decide, ?_⟩
  rw [e28]
  by_cases h1 : a < 1
  · exact br_t h1 (bad (fun z => nlt_le.mpr h1 z.1))
  · refine br_f h1 ?_
    by_cases h2 : a ≤ 60
    · refine br_t h2 ?_
      have hz : zin a 1 60 := ⟨nle_lt.mp h1, h2⟩
      obtain ⟨k, k1, k2, rfl⟩ := (zin1 (m := 60) (by decide)).mp hz
      rw [nI_add]
      by_cases h3 : hr + k ≤ 9999
      · refine br_t (nI_le (b := 9999) h3 (by decide)) ?_
        refine sp_passHours (o := 2) (by decide) h.mr hR (by omega) (fun M1 hM1 _ ho => ?_)
        have hRn := pass_RO hR k (by omega)
        refine sp_foundSet (o := 2) (by decide) hM1 hRn ?_
        have hi := mo_scC ho
        unfold wp_X10_hours
        refine ⟨by decide, ?_⟩
        rw [e_in]
        refine b2t hz ?_
        rw [show M1 (120 + 1) = M 121 from hi 121 (by decide), hR.2.2.1.1, nI_add]
        refine br_t (nI_le (b := 9999) h3 (by decide)) ?_
        refine sp_passes (by rw [hi 121 (by decide)]; exact hR) (by omega) (fun M2 e2 ho2 => ?_)
        rw [hi 121 (by decide)] at e2
        refine sp_mFound (by rw [e2]; exact hRn) ⟨by rw [e2], ?_⟩
        refine h.moorQ (M1 := M1) (RW.ro (ns := 0) (nk := 0) (hr := 0) h.2.1.1 hRn (by omega) (fun i hi2 => pass_low hR (by omega) (by omega) k (by omega))) hM1 ho (fun i hi2 => pass_low hR (idx_hour i hi2) (by omega) k (by omega)) (scrH_Q ho2) e2 (fun i hi2 => by rw [pass_out hR hi2 k (by omega)]; exact h.z i hi2) (fun i hi2 => ?_)
        rw [ho2 123 (by unfold scrH; omega), hi 123 (by decide)]
        exact (h.2.2 i hi2).2.2
      · refine br_f (fun z => h3 ?_) ?_
        · rw [show (9999 : Int32) = nI 9999 from rfl, nI_leI (by omega) (by decide)] at z; exact z
        · refine sp_refuse (k := 3) (by decide) (by decide) ?_
          unfold wp_X10_hours
          refine ⟨by decide, ?_⟩
          rw [e_in]
          refine b2t hz ?_
          rw [show (mu M 107 3 (M 107 3 + 1)) (120 + 1) = M 121 from mu_ne (by decide), hR.2.2.1.1, nI_add]
          refine br_f (fun z => h3 ?_) (fin_err (e := -1000000003) h (k := 3) (by decide) (by decide) rfl)
          rw [show (9999 : Int32) = nI 9999 from rfl, nI_leI (by omega) (by decide)] at z; exact z
    · exact br_f h2 (bad (fun z => h2 z.2))
