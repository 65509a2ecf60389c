theorem call_image {n : Nat} {M : Mem} (hn : n < 2 ^ 20) (h : INV n M) : wp_X9_image 0 M (fun r M1 => wp_X10_image 120 M1 (fun r2 M2 => r = r2 ∧ INV (n + 1) M2)) := by
  obtain ⟨ns, nk, hr, nt, nw, hR, hh, hnt, hnw, hby⟩ := h.2.1.1
  obtain ⟨ni, hni, eni, ekp⟩ := h.2.1.2.1
  obtain ⟨⟨a, b, c, ⟨⟨d1, d2⟩, ⟨d3, d4⟩⟩, e, f, g⟩, hA, hz⟩ := h
  unfold wp_X9_image
  refine ⟨by decide, ?_⟩
  refine sp_copyWorld (h := 35) (a := 1) (by decide) (by decide) a hR hnt hnw (by omega) ⟨d1, d2⟩ (by decide) (fun M1 w1 o1 => ?_)
  have K : ∀ b, (b < 35 ∨ 69 ≤ b) → M1 b = M b := fun b hb => o1 b (by omega)
  intro M2 e2
  have e07 : M2 0 7 = nI (ni + 1) := by rw [e2, mu_hit, K 0 (by omega), b, eni, nI_1]
  have K2 : ∀ b, b ≠ 0 → (b < 35 ∨ 69 ≤ b) → M2 b = M b := fun b h0 hb => by rw [e2, mu_ne h0]; exact K b hb
  have z2 : z3 M2 := fun i hi => by rw [K2 121 (by decide) (by omega), K2 122 (by decide) (by omega), K2 123 (by decide) (by omega)]; exact hz i hi
  unfold wp_X10_image
  refine ⟨by decide, sp_moveAll (a := 121) (d := 122) (by omega) (by omega) (by omega) ?_⟩
  intro M4 e4 M5 e5
  have e120 : ∀ j, j ≠ 3 → j ≠ 4 → M5 120 j = M 120 j := fun j h3 h4 => by rw [e5, mu_off h4, e4, mu_off h3, mcp_ne (by decide), K2 120 (by decide) (by omega)]
  have e44 : M5 120 4 = nI (ni + 1) := by rw [e5, mu_hit, e4, mu_off (by decide), mcp_ne (by decide), K2 120 (by decide) (by omega), eni, nI_1]
  have e43 : M5 120 3 = 1 := by rw [e5, mu_off (by decide), e4, mu_hit]
  have K5 : ∀ b, b ≠ 120 → b ≠ 122 → M5 b = M2 b := fun b h0 h2 => by rw [e5, mu_ne h0, e4, mu_ne h0, mcp_ne h2]
  have e122 : M5 122 = M 121 := by rw [e5, mu_ne (by decide), e4, mu_ne (by decide), row_eq z2, K2 121 (by decide) (by omega)]
  have e121 : M5 121 = M 121 := (K5 121 (by decide) (by decide)).trans (K2 121 (by decide) (by omega))
  have KM : ∀ b, b ≠ 0 → b ≠ 120 → b ≠ 122 → (b < 35 ∨ 69 ≤ b) → M5 b = M b := fun b h0 h1 h2 hb => (K5 b h1 h2).trans (K2 b h0 hb)
  have nz : ¬ nI (ni + 1) = 0 := fun z => by rw [show (0 : Int32) = nI 0 from rfl, nI_eq (by omega) (by decide)] at z; omega
  refine ⟨e07.trans e44.symm, ?_⟩
  unfold INV z3
  rw [e121, e122, e44, e43, KM 124 (by decide) (by decide) (by decide) (by omega), KM 129 (by decide) (by decide) (by decide) (by omega), KM 130 (by decide) (by decide) (by decide) (by omega), KM 131 (by decide) (by decide) (by decide) (by omega), KM 133 (by decide) (by decide) (by decide) (by omega), KM 123 (by decide) (by decide) (by decide) (by omega), e120 21 (by decide) (by decide)]
  have M35 : ∀ b, 35 ≤ b → b < 69 → M5 b = M1 b := fun b h1 h2 => by rw [K5 b (by omega) (by omega), e2, mu_ne (by omega)]
  have w5 : WR M5 35 (M 121) := w1.kept hA.1.t (fun b h1 h2 _ => M35 b h1 (by omega))
  refine ⟨⟨a.kept hA.1.t (fun b h1 h2 _ => KM b (by omega) (by omega) (by omega) (by omega)), ?_, fun _ => w5, ⟨⟨w5.2.1.2.2.2.2.1.1, w5.2.1.2.2.2.2.2.1⟩, ?_⟩, fun k h1 h2 => ?_, fun s hs => ⟨?_, (f s hs).2.kept (KM _ (by omega) (by omega) (by omega) (by omega)) (KM _ (by omega) (by omega) (by omega) (by omega))⟩, g.kept (KM _ (by omega) (by omega) (by omega) (by omega)) (KM _ (by omega) (by omega) (by omega) (by omega))⟩, ⟨hA.1, ⟨ni + 1, by omega, rfl, by rw [if_neg (by omega)]⟩, fun _ => hA.1, hA.2.2.2.1, hA.2.2.2.2⟩, fun i hi => ⟨(hz i hi).1, (hz i hi).1, (hz i hi).2.2⟩⟩
  · rw [K5 0 (by decide) (by decide)]; exact e07
  · rw [KM 70 (by omega) (by omega) (by omega) (by omega), KM 75 (by omega) (by omega) (by omega) (by omega)]; exact ⟨d3, d4⟩
  · rw [KM 107 (by omega) (by omega) (by omega) (by omega)]; exact e k h1 h2
  · rw [KM _ (by omega) (by omega) (by omega) (by omega)]; exact (f s hs).1
theorem call_restore {n : Nat} {M : Mem} (hn : n < 2 ^ 20) (h : INV n M) : wp_X9_restore 0 M (fun r M1 => wp_X10_restore 120 M1 (fun r2 M2 => r = r2 ∧ INV (n + 1) M2)) := by
  obtain ⟨ni, hni, eni, ekp⟩ := h.2.1.2.1
  have e07 : M 0 7 = nI ni := h.1.2.1.trans eni
  unfold wp_X9_restore
  refine ⟨by decide, ?_⟩
  rw [e07]
  by_cases q : ni = 0
  · subst q
    refine ⟨fun z => absurd rfl z, fun _ => sp_refuse (k := 2) (by decide) (by decide) ?_⟩
    unfold wp_X10_restore
    refine ⟨by decide, ?_⟩
    rw [mu_ne (by decide), ekp]
    exact ⟨fun z => absurd rfl z, fun _ => fin_err (e := -1000000002) h (k := 2) (by decide) (by decide) rfl⟩
  · have nz : ¬ nI ni = 0 := fun z => by rw [show (0 : Int32) = nI 0 from rfl, nI_eq (by omega) (by decide)] at z; omega
    refine ⟨fun _ => ?_, fun z => absurd z nz⟩
    have nim : ¬ M 120 4 = 0 := by rw [eni]; exact nz
    have kw := h.1.2.2.1 nim
    have krw := h.2.1.2.2.1 nim
    obtain ⟨ns, nk, hr, nt, nw, hR, hh, hnt, hnw, hby⟩ := krw
    refine sp_copyWorld (h := 1) (a := 35) (by decide) (by decide) kw hR hnt hnw (by omega) ⟨h.mr.2.2.2.2.1.1, h.mr.2.2.2.2.2.1⟩ (by decide) (fun M1 w1 o1 => ?_)
    have K : ∀ b, (b < 1 ∨ 35 ≤ b) → M1 b = M b := fun b hb => o1 b (by omega)
    have z1 : z3 M1 := fun i hi => by rw [K 121 (by omega), K 122 (by omega), K 123 (by omega)]; exact h.2.2 i hi
    unfold wp_X10_restore
    refine ⟨by decide, ?_⟩
    rw [K 120 (by omega), ekp, if_neg q]
    refine ⟨fun _ => sp_moveAll (a := 122) (d := 121) (by omega) (by omega) (by omega) ?_, fun z => absurd z (by decide)⟩
    have e121 : mcp M1 122 0 121 0 242 121 = M 122 := by rw [row_eq2 z1, K 122 (by omega)]
    refine ⟨?_, ?_⟩
    · rw [show mcp M1 122 0 121 0 242 (120 + 1) = M 122 from e121]; exact w1.2.1.1.1
    · refine h.row (M1 := M1) (r := M 122) (h.2.1.2.2.1 nim) w1 (fun b h1 h2 _ => K b (by omega)) (fun b hb => mcp_ne (by omega)) (sameM.upd (fun b h1 h2 => by rw [mcp_ne h2, K b (by omega)])) e121 (fun i hi => ?_)
      rw [e121, mcp_ne (by decide), mcp_ne (by decide), K 122 (by omega), K 123 (by omega)]
      exact ⟨(h.2.2 i hi).2.1, (h.2.2 i hi).2.1, (h.2.2 i hi).2.2⟩
/-- FEED: a byte of a word -/
theorem u64_all : ∀ k, k < 64 → ((UInt64.ofNat k).toBitVec % 64).toNat = k ∧ ((Int64.ofNat k).toBitVec.smod 64).toNat = k := by decide +kernel
theorem lus_bv (w : Int64) (y : Int32) (k : Nat) (h1 : (y.toInt64.toUInt64 &&& Int64.toUInt64 63) = UInt64.ofNat k) (hk : k < 64) : (lus w y).toBitVec = w.toBitVec >>> k := by
  unfold lus
  rw [h1]
  simp only [UInt64.toBitVec_toInt64, UInt64.toBitVec_shiftRight, Int64.toBitVec_toUInt64]
  rw [BitVec.ushiftRight_eq', (u64_all k hk).1]
theorem lsr_bv (w : Int64) (y : Int32) (k : Nat) (h1 : (y.toInt64 &&& 63) = Int64.ofNat k) (hk : k < 64) : (lsr' w y).toBitVec = w.toBitVec.sshiftRight k := by
  unfold lsr'
  rw [h1]
  simp only [Int64.toBitVec_shiftRight]
  rw [BitVec.sshiftRight_eq', (u64_all k hk).2]
theorem byte_bv (x : BitVec 64) (k : Nat) (hk : k ≤ 56) : ((x >>> k).signExtend 32 &&& 255#32) = ((x.sshiftRight k) &&& 255#64).signExtend 32 := by
  apply BitVec.eq_of_getLsbD_eq
  intro i hi
  simp only [BitVec.getLsbD_and, BitVec.getLsbD_signExtend, BitVec.getLsbD_ushiftRight, BitVec.getLsbD_sshiftRight]
  have e : ∀ i, i < 32 → (255#32).getLsbD i = decide (i < 8) ∧ (255#64).getLsbD i = decide (i < 8) := by decide
  rw [(e i hi).1, (e i hi).2]
  by_cases q : i < 8
  · simp [q, hi, show i < 64 by omega, show k + i < 64 by omega]
  · simp [q]
    intros
    omega
theorem sh8_all : ∀ k, k < 8 → ((8 * nI k).toInt64.toUInt64 &&& Int64.toUInt64 63) = UInt64.ofNat (8 * k) ∧ ((8 * nI k).toInt64 &&& 63) = Int64.ofNat (8 * k) := by decide +kernel
theorem byte_eq (w : Int64) (k : Nat) (hk : k < 8) : ((lus w (8 * nI k)).toInt32) &&& 255 = ((lsr' w (8 * nI k)) &&& 255).toInt32 := by
  apply Int32.toBitVec_inj.mp
  rw [Int32.toBitVec_and, Int64.toBitVec_toInt32, Int64.toBitVec_toInt32, Int64.toBitVec_and, lus_bv w _ (8 * k) (sh8_all k hk).1 (by omega), lsr_bv w _ (8 * k) (sh8_all k hk).2 (by omega)]
  exact byte_bv w.toBitVec (8 * k) (by omega)
theorem and255 (x : Int32) : zb (x &&& 255) 255 := by
  refine (zin_nI (n := 255) (by decide)).mp ?_
  have h : (x &&& 255).toBitVec.toNat ≤ 255 := by
    rw [Int32.toBitVec_and, BitVec.toNat_and]
    exact Nat.and_le_right
  have e : (x &&& 255).toInt = ((x &&& 255).toBitVec.toNat : Int) := by
    show (x &&& 255).toBitVec.toInt = _
    rw [BitVec.toInt_eq_toNat_of_lt (by omega)]
  refine ⟨i_le.mpr ?_, i_le.mpr ?_⟩
  · rw [e, show (0 : Int32).toInt = 0 from by decide]; omega
  · rw [e, show (nI 255).toInt = 255 from by decide]; omega
def bytZ (w : Int64) (k : Nat) : Int32 := ((lsr' w (8 * nI k)) &&& 255).toInt32
def fdZ (r : Nat → Int32) (w : Int64) (nt : Nat) : Nat → Nat → Int32
  | 0 => r
  | k + 1 => upd (upd (fdZ r w nt k) (72 + nt + k) (bytZ w k)) 4 (nI (nt + k + 1))
theorem fd_off {r : Nat → Int32} {w : Int64} {nt i : Nat} (h4 : i ≠ 4) : ∀ k, (i < 72 + nt ∨ 72 + nt + k ≤ i) → fdZ r w nt k i = r i
  | 0, _ => rfl
  | k + 1, hk => (upd_off h4).trans ((upd_off (by omega)).trans (fd_off h4 k (by omega)))
theorem fd_4 {r : Nat → Int32} {w : Int64} {nt : Nat} (h : r 4 = nI nt) : ∀ k, fdZ r w nt k 4 = nI (nt + k)
  | 0 => h
  | k + 1 => by show upd _ 4 _ 4 = _; rw [upd_hit]; rfl
theorem fd_by {r : Nat → Int32} {w : Int64} {nt : Nat} (h : ∀ j, j < nt → zb (r (72 + j)) 255) : ∀ k, k ≤ 8 → ∀ j, j < nt + k → zb (fdZ r w nt k (72 + j)) 255
  | 0, _, j, hj => h j (by omega)
  | k + 1, hk, j, hj => by
    show zb (upd (upd (fdZ r w nt k) (72 + nt + k) (bytZ w k)) 4 (nI (nt + k + 1)) (72 + j)) 255
    rw [upd_off (by omega)]
    by_cases q : j = nt + k
    · subst q
      rw [show 72 + nt + k = 72 + (nt + k) from by omega, upd_hit]
      unfold bytZ
      rw [← byte_eq w k (by omega)]
      exact and255 _
    · rw [upd_off (by omega)]
      exact fd_by h k (by omega) j (by omega)
theorem call_feed {n : Nat} {M : Mem} (h : INV n M) (w : Int64) (a : Int32) : wp_X9_feed 0 w a M (fun r M1 => wp_X10_feed 120 w a M1 (fun r2 M2 => r = r2 ∧ INV (n + 1) M2)) := by
  obtain ⟨ns, nk, hr, nt, nw, hR, hh, hnt, hnw, hby⟩ := h.2.1.1
  have n7 := hR.2.1.2
  have n6 := hR.1.2
  have t4 : M 31 1 = nI nt := by
    have := h.1.1.2.2.1.1
    rw [hnt.1] at this
    exact this
  have tj : ∀ j, j < nt → M 32 j = M 121 (72 + j) := fun j hj => h.1.1.2.2.1.2 j (by rw [hnt.1, tn, nI_clamp (by omega)]; exact hj)
  obtain ⟨r, er⟩ : ∃ r, r = M 121 := ⟨_, rfl⟩
  rw [← er] at hR hnt hnw hby tj
  have bad : ¬ zin a 1 8 → wp_X9_refuse 0 1 M (fun r M1 => wp_X10_feed 120 w a M1 (fun r2 M2 => r = r2 ∧ INV (n + 1) M2)) := by
    intro hb
    refine sp_refuse (k := 1) (by decide) (by decide) ?_
    unfold wp_X10_feed
    refine ⟨by decide, ?_⟩
    rw [e_in]
    exact b2f hb (fin_err (e := -1000000001) h (k := 1) (by decide) (by decide) rfl)
  unfold wp_X9_feed b_X9_feed_11
  refine ⟨by decide, ?_⟩
  rw [show M (0 + 1 + 30) 1 = nI nt from t4]
  by_cases h1 : a < 1
  · exact br_t h1 (bad (fun z => nlt_le.mpr h1 z.1))
  refine br_f h1 ?_
  by_cases h2 : a ≤ 8
  · refine br_t h2 ?_
    have hz : zin a 1 8 := ⟨nle_lt.mp h1, h2⟩
    obtain ⟨k, k1, k2, rfl⟩ := (zin1 (m := 8) (by decide)).mp hz
    rw [nI_add]
    by_cases h3 : nt + k ≤ 50
    · refine br_t (nI_le (b := 50) h3 (by decide)) ?_
      have rr : ∀ i, i ≤ k → RO (fdZ r w nt i) ns nk hr := fun i hi => hR.ext (fun x hx => fd_off hx.2.1 i (by have := hx.2.2.2; omega))
      have pc : ∀ (m i : Nat) (M1 : Mem), i + m = k → M1 31 1 = nI (nt + i) → (∀ j, j < nt + i → M1 32 j = fdZ r w nt i (72 + j)) → only (fun b => b = 31 ∨ b = 32) M M1 → l_X9_feed_43 0 (fun r M1 => wp_X10_feed 120 w (nI k) M1 (fun r2 M2 => r = r2 ∧ INV (n + 1) M2)) w (nI k) (m + 1) (nI i) M1 := by
        intro m
        induction m with
        | zero =>
          intro i M1 hi s1 g1 o1
          have : i = k := by omega
          subst this
          show B_X9_feed_43 0 _ _ _ _ _ _
          unfold B_X9_feed_43
          rw [show M1 (0 + 1 + 30) 1 = _ from s1]
          refine br_t (nI_le (Nat.le_refl _) (by omega)) ?_
          have hi1 : ∀ b, 120 ≤ b → M1 b = M b := fun b hb => o1 b (by omega)
          unfold wp_X10_feed
          refine ⟨by decide, ?_⟩
          rw [e_in]
          refine b2t hz ?_
          rw [show M1 (120 + 1) 4 = nI nt from by rw [show M1 (120 + 1) = M 121 from hi1 121 (by decide), ← er]; exact hnt.1, nI_add]
          refine br_t (nI_le (b := 50) h3 (by decide)) ?_
          have pm : ∀ (m j : Nat) (M2 : Mem), j + m = i → M2 121 = fdZ r w nt j → (∀ b, b ≠ 121 → M2 b = M1 b) → l_X10_feed_40 120 (fun r2 M2 => nI (nt + i) = r2 ∧ INV (n + 1) M2) w (nI i) (m + 1) (nI j) M2 := by
            intro m
            induction m with
            | zero =>
              intro j M2 hj e2 kq
              have : j = i := by omega
              subst this
              show B_X10_feed_40 120 _ _ _ _ _ _
              unfold B_X10_feed_40
              rw [show M2 (120 + 1) 4 = nI (nt + j) from by rw [show M2 (120 + 1) = _ from e2]; exact fd_4 hnt.1 j]
              refine br_t (nI_le (Nat.le_refl _) (by omega)) ⟨rfl, ?_⟩
              refine h.tape (M1 := M1) (r := fdZ r w nt j) ⟨ns, nk, hr, nt + j, nw, rr j (by omega), hh, ⟨fd_4 hnt.1 j, h3⟩, ⟨by rw [fd_off (by omega) j (by omega)]; exact hnw.1, hnw.2⟩, fd_by hby j (by omega)⟩ (fun x hx => by rw [← er]; exact fd_off hx.2.1 j (by have := hx.2.2.2; omega)) (by rw [← er]; exact fd_off (by omega) j (by omega)) ⟨by rw [fd_4 hnt.1 j]; exact s1, fun x hx => ?_⟩ ?_ (fun b g1 g2 _ => o1 b (by omega)) (fun b hb => kq b (by omega)) (sameM.upd (fun b g1 g2 => (kq b g2).trans (hi1 b g1))) e2 (fun x hx => by rw [kq 123 (by decide), hi1 123 (by decide)]; exact (h.2.2 x hx).2.2)
              · rw [fd_4 hnt.1 j, tn, nI_clamp (by omega)] at hx
                exact g1 x hx
              · have t := h.1.1.2.2.2
                rw [← er] at t
                refine ⟨?_, fun x hx => ?_⟩
                · rw [o1 33 (by omega), fd_off (by omega) j (by omega)]; exact t.1
                · rw [fd_off (by omega) j (by omega)] at hx
                  rw [o1 34 (by omega)]
                  dsimp only
                  rw [fd_off (by omega) j (by omega)]; exact t.2 x hx
            | succ m ih =>
              intro j M2 hj e2 kq
              show B_X10_feed_40 120 _ _ _ _ _ _
              unfold B_X10_feed_40
              have e4 : M2 (120 + 1) 4 = nI (nt + j) := by rw [show M2 (120 + 1) = _ from e2]; exact fd_4 hnt.1 j
              rw [e4, show (72 : Int32) = nI 72 from rfl, nI_add]
              refine br_f (nI_ge (by omega) (by omega)) ⟨vp_in_nI (by omega) (by decide), ?_⟩
              rw [nI_clamp (by omega)]
              intro M3 e3 M4 e4' x ex
              rw [nI_1] at ex
              subst ex
              have f3 : M3 121 = upd (fdZ r w nt j) (72 + nt + j) (bytZ w j) := by rw [e3, show (120 + 1 : Nat) = 121 from rfl, mu_same, e2, show 72 + (nt + j) = 72 + nt + j from by omega]; rfl
              have f34 : M3 (120 + 1) 4 = nI (nt + j) := by rw [show M3 (120 + 1) = _ from f3, upd_off (by omega)]; exact fd_4 hnt.1 j
              rw [f34, nI_1] at e4'
              refine ih (j + 1) M4 (by omega) ?_ (fun b hb => by rw [e4', mu_ne hb, e3, mu_ne hb]; exact kq b hb)
              rw [e4', show (120 + 1 : Nat) = 121 from rfl, mu_same, f3]
              rfl
          exact ⟨i + 1, pm i 0 M1 (by omega) ((hi1 121 (by decide)).trans er.symm) (fun _ _ => rfl)⟩
        | succ m ih =>
          intro i M1 hi s1 g1 o1
          show B_X9_feed_43 0 _ _ _ _ _ _
          unfold B_X9_feed_43
          refine br_f (nI_ge (by omega) (by omega)) ?_
          refine sp_append (h := 31) (n := nt + i) (by decide) s1 (by rw [show lnT (31 + 1) = 50 from by decide]; omega) (by rw [show lnT (31 + 1) = 50 from by decide]; decide) ?_
          intro x ex
          rw [nI_1] at ex
          subst ex
          rw [byte_eq w i (by omega)]
          refine ih (i + 1) _ (by omega) (by rw [mu_hit]; rfl) (fun j hj => ?_) (o1.tr ((only.mu (Or.inr rfl)).tr (only.mu (Or.inl rfl))))
          rw [mu_ne (by decide)]
          show (mu M1 32 (nt + i) _) 32 j = upd (upd (fdZ r w nt i) (72 + nt + i) (bytZ w i)) 4 (nI (nt + i + 1)) (72 + j)
          rw [upd_off (by omega)]
          by_cases q : j = nt + i
          · subst q
            rw [mu_hit, show 72 + nt + i = 72 + (nt + i) from by omega, upd_hit]
            rfl
          · rw [mu_off q, upd_off (by omega)]
            exact g1 j (by omega)
      exact ⟨k + 1, pc k 0 M (by omega) t4 tj only.rf⟩
    · refine br_f (fun z => h3 ?_) ?_
      · rw [show (50 : Int32) = nI 50 from rfl, nI_leI (by omega) (by decide)] at z; exact z
      · refine sp_refuse (k := 4) (by decide) (by decide) ?_
        unfold wp_X10_feed
        refine ⟨by decide, ?_⟩
        rw [e_in]
        refine b2t hz ?_
        rw [show (mu M 107 4 (M 107 4 + 1)) (120 + 1) = M 121 from mu_ne (by decide), ← er, hnt.1, nI_add]
        refine br_f (fun z => h3 ?_) (fin_err (e := -1000000004) h (k := 4) (by decide) (by decide) rfl)
        rw [show (50 : Int32) = nI 50 from rfl, nI_leI (by omega) (by decide)] at z; exact z
  · exact br_f h2 (bad (fun z => h2 z.2))
