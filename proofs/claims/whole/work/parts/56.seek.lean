/-! ===== a SEEKER's turn, the cold, an HOUR ===== -/
def mo (o : Nat) : Nat → Prop := fun b => o ≤ b ∧ b < o + 29
def digZ (r : Nat → Int32) (s c : Nat) : Nat → Int32 := upd r (8 + c) (heldZ (r (8 + c) - r (19 + 2 * s)) 0 999)
def hZ (r : Nat → Int32) (k : Nat) : Int32 := heardF (r (30 + 6 * k + 0)) (r (30 + 6 * k + 1)) (r (30 + 6 * k + 4)) (r 0)
def goZ (r : Nat → Int32) (s k : Nat) : Nat → Int32 := upd r (18 + 2 * s) (r (18 + 2 * s) + (if r (18 + 2 * s) < r (30 + 6 * k + 2) then 1 else -1))
def hitZ (r : Nat → Int32) (s k c : Nat) : Prop := digZ r s c (8 + c) ≤ hZ r k
def seekA (r : Nat → Int32) (s k c : Nat) : (Nat → Int32) × Int32 :=
  if r (30 + 6 * k + 2) = r (18 + 2 * s) then (if digZ r s c (8 + c) ≤ hZ r k then (upd (digZ r s c) (30 + 6 * k + 5) 1, nI k) else (digZ r s c, -1)) else (goZ r s k, -1)
noncomputable def seekP (nk : Nat) (r : Nat → Int32) (s : Nat) : (Nat → Int32) × Int32 := if outZ r s nk < 0 then (r, -1) else seekA r s (tn (outZ r s nk)) (tn (r (30 + 6 * tn (outZ r s nk) + 2)))
/-- a row of what was found, at most seven -/
def FL (M : Mem) (o : Nat) (l : List Int32) : Prop := M (o + 14) 1 = nI l.length ∧ l.length ≤ 7 ∧ ∀ j, j < l.length → M (o + 14 + 1) j = l.getD j 0
def pushF (l : List Int32) (x : Int32) : List Int32 := if x < 0 then l else if l.length < 7 then l ++ [x] else l
theorem FL.kept {M M' : Mem} {o : Nat} {l : List Int32} (h : FL M o l) (h1 : M' (o + 14) = M (o + 14)) (h2 : M' (o + 14 + 1) = M (o + 14 + 1)) : FL M' o l := ⟨by rw [h1]; exact h.1, h.2.1, fun j hj => by rw [h2]; exact h.2.2 j hj⟩
theorem sp_pushF {M : Mem} {o k : Nat} {l : List Int32} {Q : Int32 → Mem → Prop} (kd : kdT o = 1) (h : FL M o l) (hk : k < 7) (hQ : ∀ r M', FL M' o (pushF l (nI k)) → only (fun b => b = o + 14 ∨ b = o + 14 + 1) M M' → Q r M') : wp_X3_append (o + 14) (nI k) M Q := by
  have k3 := ks1_5 kd
  have ln := ln_finds kd
  unfold pushF at hQ
  rw [if_neg (nI_pos (by omega))] at hQ
  by_cases h7 : l.length < 7
  · refine sp_append (n := l.length) k3 h.1 (by omega) (by omega) (hQ _ _ ?_ ((only.mu (Or.inr rfl)).tr (only.mu (Or.inl rfl))))
    rw [if_pos h7]
    refine ⟨by rw [mu_hit]; simp, by simp; omega, fun j hj => ?_⟩
    rw [mu_ne (by omega)]
    simp only [List.length_append, List.length_cons, List.length_nil] at hj
    by_cases q : j = l.length
    · subst q; rw [mu_hit]; simp [List.getD_eq_getElem?_getD]
    · rw [mu_off q, h.2.2 j (by omega)]
      simp only [List.getD_eq_getElem?_getD]
      rw [List.getElem?_append_left (by omega)]
  · have h27 := h.2.1
    refine sp_appendFull (n := l.length) k3 h.1 (by omega) (by omega) (hQ _ _ ?_ only.rf)
    rw [if_neg h7]
    exact h
theorem sp_snowAt {M : Mem} {o c : Nat} {Q : Int32 → Mem → Prop} (kd : kdT o = 1) (hc : c < 10) (hQ : Q (M (o + 11) c) M) : wp_X1_snowAt o (nI c) M Q := by
  unfold wp_X1_snowAt
  refine ⟨kd, ?_⟩
  rw [e_isCell]
  have : zin (nI c) 0 9 := (zin_nI (n := 9) (by decide)).mpr ⟨c, by omega, rfl⟩
  rw [bi_t this]
  refine ⟨fun z => absurd z (by decide), fun _ => ⟨vp_in_nI hc (by decide), ?_⟩⟩
  rw [nI_clamp (by omega)]
  exact hQ
theorem sp_drop {M : Mem} {o c : Nat} {v : Int32} {Q : Mem → Prop} (kd : kdT o = 1) (hc : c < 10) (hQ : Q (mu M (o + 11) c (heldZ (M (o + 11) c + v) 0 999))) : wp_X1_dropSnow o (nI c) v M Q := by
  unfold wp_X1_dropSnow
  refine ⟨kd, ?_⟩
  rw [e_isCell]
  have : zin (nI c) 0 9 := (zin_nI (n := 9) (by decide)).mpr ⟨c, by omega, rfl⟩
  rw [bi_t this]
  refine ⟨fun z => absurd z (by decide), fun _ => ⟨vp_in_nI hc (by decide), vp_in_nI hc (by decide), ?_⟩⟩
  intro M1 e1
  rw [nI_clamp (by omega), held_mm (by decide)] at e1
  subst e1
  exact hQ
theorem m1neg : (-1 : Int32) < 0 := by decide
theorem go_all : ∀ a, a ≤ 9 → ∀ c, c ≤ 9 → a ≠ c → zb (nI a + (if nI a < nI c then 1 else -1)) 9 := by
  intro a ha c hc hne
  by_cases h : a < c
  · rw [if_pos (nI_lt h (by omega)), nI_1]
    exact ⟨a + 1, by omega, rfl⟩
  · rw [if_neg (nI_nlt (by omega) (by omega))]
    obtain ⟨b, rfl⟩ : ∃ b, a = b + 1 := ⟨a - 1, by omega⟩
    rw [pk_m1]
    exact ⟨b, by omega, rfl⟩
theorem seek_RO {r : Nat → Int32} {ns nk hr s : Nat} (hR : RO r ns nk hr) (hs : s < ns) : RO (seekP nk r s).1 ns nk hr := by
  unfold seekP
  rcases out_is r s nk with q | ⟨k, q1, q2, q3⟩
  · rw [q, if_pos (by decide)]; exact hR
  · have n7 := hR.2.1.2
    rw [q2, if_neg (nI_pos (by omega)), tn, nI_clamp (by omega)]
    obtain ⟨c, hc, ec⟩ := hR.fld (w := 2) q1 (by decide)
    have hc : c ≤ 9 := hc
    obtain ⟨a, ha, ea⟩ := (hR.2.2.2.2.1 s hs).1
    rw [ec, tn, nI_clamp (by omega)]
    unfold seekA
    have hd : RO (digZ r s c) ns nk hr := hR.snow (zb_held (n := 999) (by decide)) (by omega)
    by_cases h1 : r (30 + 6 * k + 2) = r (18 + 2 * s)
    · rw [if_pos h1]
      by_cases h2 : digZ r s c (8 + c) ≤ hZ r k
      · rw [if_pos h2]
        exact hd.sheep q1 (by decide) ⟨1, by decide, rfl⟩
      · rw [if_neg h2]; exact hd
    · rw [if_neg h1]
      refine hR.at ?_ hs
      rw [ea, ec] at *
      exact go_all a ha c hc (fun z => h1 (by rw [z]))
/-- the class: a SEEKER's turn -/
theorem sp_seek {o s ns nk hr : Nat} {r : Nat → Int32} {l : List Int32} {M : Mem} {Q : Mem → Prop} (kd : kdT o = 1) (hM : MR M o r) (hR : RO r ns nk hr) (hF : FL M o l) (hs : s < ns)
    (hQ : ∀ M', MR M' o (seekP nk r s).1 → FL M' o (pushF l (seekP nk r s).2) → only (mo o) M M' → Q M') : wp_X1_seek o (o + 12 + 4 + s) (outZ r s nk) M Q := by
  have n6 := hR.1.2
  have n7 := hR.2.1.2
  have t3 := hR.tn3
  have t2 := hR.tn2
  unfold wp_X1_seek
  refine ⟨kd, ke12 (ks1_3 kd) (by rw [ln1_3 kd]; omega), ?_⟩
  unfold seekP at hQ
  rcases out_is r s nk with q | ⟨k, q1, q2, q3⟩
  · rw [q, if_pos (by decide)] at hQ
    rw [q]
    exact br_t (by decide) (hQ M hM (by unfold pushF; rw [if_pos m1neg]; exact hF) only.rf)
  · rw [q2, if_neg (nI_pos (by omega)), tn, nI_clamp (by omega)] at hQ
    rw [q2]
    refine br_f (nI_pos (by omega)) ?_
    rw [show M o 7 = nI nk from hM.1.2.1.trans hR.2.1.1]
    refine br_t (nI_lt q1 (by omega)) ⟨vp_in_nI (by omega) (by decide), ?_⟩
    rw [nI_clamp (by omega)]
    intro q eq
    have F : ∀ w, w < 6 → M q w = r (30 + 6 * k + w) := fun w hw => by rw [eq]; exact hM.2.2.2.1 k (by rw [t2]; omega) w hw
    have kq : kdT q = 5 := by rw [eq]; exact ke13 (ks1_4 kd) (by rw [ln1_4 kd]; omega)
    obtain ⟨c, hc, ec⟩ := hR.fld (w := 2) q1 (by decide)
    have hc : c ≤ 9 := hc
    obtain ⟨a, ha, ea⟩ := (hR.2.2.2.2.1 s hs).1
    obtain ⟨m1, m2⟩ := hM.2.2.1 s (by rw [t3]; exact hs)
    rw [F 2 (by decide), m1, m2]
    rw [ec, tn, nI_clamp (by omega)] at hQ
    unfold seekA at hQ
    by_cases h1 : r (30 + 6 * k + 2) = r (18 + 2 * s)
    · rw [if_pos h1] at hQ
      refine ⟨fun _ => ?_, fun z => absurd h1 z⟩
      rw [ec]
      refine sp_drop kd (by omega) ?_
      have hM2 : MR (mu M (o + 11) c (heldZ (M (o + 11) c + -r (19 + 2 * s)) 0 999)) o (digZ r s c) := by
        rw [hM.2.1 c (by omega), ← Int32.sub_eq_add_neg]
        exact hM.snow (by omega)
      have ho2 : only (mo o) M (mu M (o + 11) c (heldZ (M (o + 11) c + -r (19 + 2 * s)) 0 999)) := only.mu ⟨by omega, by omega⟩
      have hF2 : FL (mu M (o + 11) c (heldZ (M (o + 11) c + -r (19 + 2 * s)) 0 999)) o l := hF.kept (mu_ne (by omega)) (mu_ne (by omega))
      generalize mu M (o + 11) c (heldZ (M (o + 11) c + -r (19 + 2 * s)) 0 999) = M2 at hM2 ho2 hF2
      have hR2 : RO (digZ r s c) ns nk hr := hR.snow (zb_held (n := 999) (by decide)) (by omega)
      have F2 : ∀ w, w < 6 → M2 q w = r (30 + 6 * k + w) := fun w hw => by
        rw [eq, hM2.2.2.2.1 k (by rw [hR2.tn2]; omega) w hw]
        exact upd_off (by omega)
      have h0 : digZ r s c 0 = r 0 := upd_off (by omega)
      rw [F2 2 (by decide), ec]
      refine sp_snowAt kd (by omega) ?_
      rw [show M2 o 8 = nI hr from by rw [hM2.1.1, h0]; exact hR.2.2.1.1]
      refine sp_heard kq (by rw [F2 0 (by decide)]; exact hR.fld (w := 0) q1 (by decide)) (by rw [F2 1 (by decide)]; exact hR.fld (w := 1) q1 (by decide)) (by rw [F2 4 (by decide)]; exact hR.fld (w := 4) q1 (by decide)) (by have := hR.2.2.1.2; omega) ?_
      rw [F2 0 (by decide), F2 1 (by decide), F2 4 (by decide), hM2.2.1 c (by omega), ← hR.2.2.1.1]
      rw [show heardF (r (30 + 6 * k + 0)) (r (30 + 6 * k + 1)) (r (30 + 6 * k + 4)) (r 0) = hZ r k from rfl]
      by_cases h2 : digZ r s c (8 + c) ≤ hZ r k
      · rw [if_pos h2] at hQ
        refine br_f (nle_lt.mpr h2) ?_
        intro M3 e3
        have hM3 : MR M3 o (upd (digZ r s c) (30 + 6 * k + 5) 1) := by
          rw [e3, eq]
          exact hM2.sheep (by decide) (by omega) (by rw [hR2.tn3]; omega)
        have hF3 : FL M3 o l := by rw [e3, eq]; exact hF2.kept (mu_ne (by omega)) (mu_ne (by omega))
        have ho3 : only (mo o) M M3 := by rw [e3, eq]; exact ho2.tr (only.mu ⟨by omega, by omega⟩)
        have hR3 := hR2.sheep (k := k) (w := 5) (v := 1) q1 (by decide) ⟨1, by decide, rfl⟩
        refine sp_pushF kd hF3 (by omega) (fun x M4 hF4 ho4 => ?_)
        refine hQ M4 (hM3.kept (by rw [hR3.tn3]; omega) (by rw [hR3.tn2]; omega) (fun b _ _ h3 => ho4 b (fun z => h3 (by unfold scO; omega)))) hF4 (ho3.tr (ho4.mono (fun b z => ?_)))
        rcases z with rfl | rfl <;> exact ⟨by omega, by omega⟩
      · rw [if_neg h2] at hQ
        refine br_t (nlt_le.mp h2) ?_
        exact hQ M2 hM2 (by unfold pushF; rw [if_pos m1neg]; exact hF2) ho2
    · rw [if_neg h1] at hQ
      refine ⟨fun z => absurd z h1, fun _ => ?_⟩
      have fin : ∀ d : Int32, d = (if r (18 + 2 * s) < r (30 + 6 * k + 2) then 1 else -1) → b_X1_seek_52 o Q (o + 12 + 4 + s) (r (18 + 2 * s)) d M := by
        intro d ed
        unfold b_X1_seek_52
        intro M1 e1
        refine hQ M1 ?_ ?_ ?_
        · rw [e1, ed]
          exact hM.seeker (w := 0) (by decide) (by omega) (by omega)
        · unfold pushF
          rw [if_pos m1neg, e1]
          exact hF.kept (mu_ne (by omega)) (mu_ne (by omega))
        · rw [e1]; exact only.mu ⟨by omega, by omega⟩
      by_cases h2 : r (30 + 6 * k + 2) ≤ r (18 + 2 * s)
      · exact br_t h2 (fin _ (by rw [if_neg (nle_lt.mpr h2)]))
      · exact br_f h2 (fin _ (by rw [if_pos (nlt_le.mp h2)]))
/-- the reference: a SEEKER's turn -/
def scrH : Nat → Prop := fun b => b = 121 ∨ b = 126 ∨ b = 127 ∨ b = 128
theorem sp_mSeek {s ns nk hr : Nat} {M : Mem} {Q : Mem → Prop} (hR : RO (M 121) ns nk hr) (hs : s < ns)
    (hQ : ∀ M', M' 121 = (seekP nk (M 121) s).1 → M' 128 s = (seekP nk (M 121) s).2 → (∀ j, j ≠ s → M' 128 j = M 128 j) → only scrH M M' → Q M') : wp_X10_seeks 120 (nI s) M Q := by
  have n6 := hR.1.2
  have n7 := hR.2.1.2
  obtain ⟨r, er⟩ : ∃ r, r = M 121 := ⟨_, rfl⟩
  rw [← er] at hR hQ
  unfold wp_X10_seeks
  refine ⟨by decide, ?_⟩
  refine sp_mOut (by rw [← er]; exact hR) hs (fun M3 ho3 => ?_)
  rw [← er]
  refine ⟨vp_in_nI (by omega) (by decide), ?_⟩
  intro M6 e6
  rw [nI_clamp (by omega)] at e6
  have ho6 : only scrH M M6 := by
    rw [e6]
    exact (ho3.mono (fun b z => by unfold scrM at z; unfold scrH; omega)).tr (only.mu (by unfold scrH; omega))
  have e121 : M6 121 = r := by rw [e6, mu_ne (by decide), ho3 121 (by unfold scrM; omega)]; exact er.symm
  have e128 : M6 128 s = -1 := by rw [e6]; exact mu_hit
  have e128' : ∀ j, j ≠ s → M6 128 j = M 128 j := fun j hj => by rw [e6, show (128 : Nat) = 120 + 8 from rfl, mu_off hj, ho3 128 (by unfold scrM; omega)]
  clear e6
  unfold seekP at hQ
  rcases out_is r s nk with q | ⟨k, q1, q2, q3⟩
  · rw [q, if_pos (by decide)] at hQ
    rw [q]
    exact br_f (by decide) (hQ M6 e121 e128 e128' ho6)
  · rw [q2, if_neg (nI_pos (by omega)), tn, nI_clamp (by omega)] at hQ
    rw [q2]
    refine br_t (nI_pos' (by omega)) ?_
    refine sp_its (w := 2) (by omega) (by decide) ?_
    refine sp_at (by omega) ?_
    rw [e121]
    obtain ⟨c, hc, ec⟩ := hR.fld (w := 2) q1 (by decide)
    have hc : c ≤ 9 := hc
    rw [ec, tn, nI_clamp (by omega)] at hQ
    unfold seekA at hQ
    by_cases h1 : r (30 + 6 * k + 2) = r (18 + 2 * s)
    · rw [if_pos h1] at hQ
      refine ⟨fun _ => ?_, fun z => absurd h1 z⟩
      rw [ec, show (8 : Int32) = nI 8 from rfl, nI_add, show (18 : Int32) = nI 18 from rfl, show (2 : Int32) = nI 2 from rfl, pk_mul, nI_add, nI_1]
      refine ⟨vp_in_nI (by omega) (by decide), vp_in_nI (by omega) (by decide), ?_⟩
      rw [nI_clamp (by omega), nI_clamp (by omega), e_held]
      refine ⟨vp_in_nI (by omega) (by decide), ?_⟩
      intro M18 e18
      rw [show 18 + 2 * s + 1 = 19 + 2 * s from by omega] at e18
      have f121 : M18 121 = digZ r s c := by rw [e18]; rw [show (120 + 1 : Nat) = 121 from rfl, mu_same, e121]; rfl
      have f128 : M18 128 = M6 128 := by rw [e18]; exact mu_ne (by decide)
      have ho18 : only scrH M M18 := by rw [e18]; exact ho6.tr (only.mu (by unfold scrH; omega))
      clear e18
      have hR2 : RO (digZ r s c) ns nk hr := hR.snow (zb_held (n := 999) (by decide)) (by omega)
      refine ⟨vp_in_nI (by omega) (by decide), ?_⟩
      refine sp_mHeard (by omega) (by rw [f121]; exact hR2.fld (w := 0) q1 (by decide)) (by rw [f121]; exact hR2.fld (w := 4) q1 (by decide)) ?_
      rw [show M18 (120 + 1) = digZ r s c from f121]
      rw [show heardF (digZ r s c (30 + 6 * k + 0)) (digZ r s c (30 + 6 * k + 1)) (digZ r s c (30 + 6 * k + 4)) (digZ r s c 0) = hZ r k from by unfold hZ digZ; rw [upd_off (by omega), upd_off (by omega), upd_off (by omega), upd_off (by omega)]]
      by_cases h2 : digZ r s c (8 + c) ≤ hZ r k
      · rw [if_pos h2] at hQ
        refine br_f (nle_lt.mpr h2) ?_
        refine sp_gets (w := 5) (by omega) (by decide) ?_
        refine ⟨vp_in_nI (by omega) (by decide), ?_⟩
        intro M25 e25
        rw [nI_clamp (by omega)] at e25
        refine hQ M25 ?_ ?_ ?_ ?_
        · rw [e25, mu_ne (by decide), mu_same, f121]
        · rw [e25]; exact mu_hit
        · intro j hj
          rw [e25, show (128 : Nat) = 120 + 8 from rfl, mu_off hj, mu_ne (by decide)]
          rw [show M18 (120 + 8) = M6 128 from f128]; exact e128' j hj
        · rw [e25]; exact (ho18.tr (only.mu (by unfold scrH; omega))).tr (only.mu (by unfold scrH; omega))
      · rw [if_neg h2] at hQ
        exact br_t (nlt_le.mp h2) (hQ M18 f121 (by rw [f128]; exact e128) (fun j hj => by rw [f128]; exact e128' j hj) ho18)
    · rw [if_neg h1] at hQ
      refine ⟨fun z => absurd z h1, fun _ => ?_⟩
      rw [show (18 : Int32) = nI 18 from rfl, show (2 : Int32) = nI 2 from rfl, pk_mul, nI_add]
      refine ⟨vp_in_nI (by omega) (by decide), ?_⟩
      rw [nI_clamp (by omega)]
      refine sp_at (by omega) ?_
      rw [show M6 (120 + 1) = r from e121]
      have fin : ∀ d : Int32, d = (if r (18 + 2 * s) < r (30 + 6 * k + 2) then 1 else -1) → b_X10_seeks_60 120 Q (120 + 1) (nI (18 + 2 * s)) (r (18 + 2 * s)) d M6 := by
        intro d ed
        unfold b_X10_seeks_60
        rw [show lnT (120 + 1) = 242 from by decide]
        refine ⟨vp_in_nI (by omega) (by decide), ?_⟩
        intro M1 e1
        rw [nI_clamp (by omega)] at e1
        refine hQ M1 ?_ ?_ ?_ ?_
        · rw [e1, show (120 + 1 : Nat) = 121 from rfl, mu_same, e121, ed]; rfl
        · rw [e1, mu_ne (by decide)]; exact e128
        · intro j hj
          rw [e1, mu_ne (by decide)]; exact e128' j hj
        · rw [e1]; exact ho6.tr (only.mu (by unfold scrH; omega))
      by_cases h2 : r (30 + 6 * k + 2) ≤ r (18 + 2 * s)
      · exact br_t h2 (fin _ (by rw [if_neg (nle_lt.mpr h2)]))
      · exact br_f h2 (fin _ (by rw [if_pos (nlt_le.mp h2)]))
