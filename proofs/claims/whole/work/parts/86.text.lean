theorem rL (d : Nat) : wp_X2_readLevel (d + 1) = wb_X2_readLevel (wp_X2_readLevel d) (wp_X2_readFactor d) (wp_X2_readDenied d) (wp_X2_readEnclosed d) := rfl
theorem rF (d : Nat) : wp_X2_readFactor (d + 1) = wb_X2_readFactor (wp_X2_readLevel d) (wp_X2_readFactor d) (wp_X2_readDenied d) (wp_X2_readEnclosed d) := rfl
theorem rD (d : Nat) : wp_X2_readDenied (d + 1) = wb_X2_readDenied (wp_X2_readLevel d) (wp_X2_readFactor d) (wp_X2_readDenied d) (wp_X2_readEnclosed d) := rfl
theorem rE (d : Nat) : wp_X2_readEnclosed (d + 1) = wb_X2_readEnclosed (wp_X2_readLevel d) (wp_X2_readFactor d) (wp_X2_readDenied d) (wp_X2_readEnclosed d) := rfl
theorem tF (d : Nat) : wp_X10_factor (d + 1) = wb_X10_factor (wp_X10_factor d) (wp_X10_product d) (wp_X10_sum d) (wp_X10_compared d) (wp_X10_both d) (wp_X10_whole d) := rfl
theorem tP (d : Nat) : wp_X10_product (d + 1) = wb_X10_product (wp_X10_factor d) (wp_X10_product d) (wp_X10_sum d) (wp_X10_compared d) (wp_X10_both d) (wp_X10_whole d) := rfl
theorem tS (d : Nat) : wp_X10_sum (d + 1) = wb_X10_sum (wp_X10_factor d) (wp_X10_product d) (wp_X10_sum d) (wp_X10_compared d) (wp_X10_both d) (wp_X10_whole d) := rfl
theorem tC (d : Nat) : wp_X10_compared (d + 1) = wb_X10_compared (wp_X10_factor d) (wp_X10_product d) (wp_X10_sum d) (wp_X10_compared d) (wp_X10_both d) (wp_X10_whole d) := rfl
theorem tB (d : Nat) : wp_X10_both (d + 1) = wb_X10_both (wp_X10_factor d) (wp_X10_product d) (wp_X10_sum d) (wp_X10_compared d) (wp_X10_both d) (wp_X10_whole d) := rfl
theorem tW (d : Nat) : wp_X10_whole (d + 1) = wb_X10_whole (wp_X10_factor d) (wp_X10_product d) (wp_X10_sum d) (wp_X10_compared d) (wp_X10_both d) (wp_X10_whole d) := rfl
/-- class and reference read alike -/
def PR (u en : Nat) (B : Nat → Int32) (o : Nat) (cW : Mem → (Int32 → Mem → Prop) → Prop) (mW : Mem → (Mem → Prop) → Prop) : Prop :=
  ∀ (p : Nat) (c : List Int32) (d : Nat), p ≤ en → c.length ≤ p → WFc c d → ∃ (ok : Int32) (p' : Nat) (c' : List Int32), (ok = 0 ∨ ok = 1) ∧ (p ≤ p' ∧ p' ≤ en) ∧ (ok = 1 → p < p' ∧ c'.length + p ≤ c.length + p' ∧ WFc c' (d + 1)) ∧
    (∀ M Q, CS u en B p c M → (∀ M', CS u en B p' c' M' → only TCx M M' → Q ok M') → cW M Q) ∧ (∀ M Q, MX u en B p c 1 o M → (∀ M', MX u en B p' c' ok o M' → OX M M' → Q M') → mW M Q)
section
variable {u en : Nat} {B : Nat → Int32}
theorem bAt_in {p L : Nat} (hL : L ≤ 4) (h : lvZ (bAt en B p) = nI L) : p < en := by
  by_cases q : p < en
  · exact q
  · unfold bAt at h
    rw [if_neg q] at h
    exact absurd h ((show ∀ L, L ≤ 4 → ¬ lvZ (-1) = nI L by decide) L hL)
/-- a loop of signs of one level -/
theorem loop_run {L f o : Nat} (he : en ≤ 50) (hL : L ≤ 4) {mSub : Mem → (Mem → Prop) → Prop} (sub : PR u en B o (fun M Q => wp_X2_readLevel f 98 (nI (L + 1)) (nI o) M Q) mSub) (mL : (Mem → Prop) → Nat → Mem → Prop)
    (hstop : ∀ Q n M p c, MX u en B p c 1 o M → p ≤ en → ¬ lvZ (bAt en B p) = nI L → Q M → mL Q (n + 1) M) (hstop0 : ∀ Q n M p c, MX u en B p c 0 o M → Q M → mL Q (n + 1) M)
    (hstep : ∀ Q n M p c, MX u en B p c 1 o M → p < en → lvZ (bAt en B p) = nI L → (∀ M', MX u en B (p + 1) c 1 o M' → OX M M' → mSub M' (fun M2 => wp_X10_adds 120 (20000 + bAt en B p) M2 (fun M3 => mL Q n M3))) → mL Q (n + 1) M) :
    ∀ (k p : Nat) (c : List Int32) (d i : Nat), en ≤ p + k → p ≤ en → c.length ≤ p → WFc c (d + 1) → i ≤ p → ∃ (ok : Int32) (p' : Nat) (c' : List Int32) (n n' : Nat), (ok = 0 ∨ ok = 1) ∧ (p ≤ p' ∧ p' ≤ en) ∧ (ok = 1 → c'.length + p ≤ c.length + p' ∧ WFc c' (d + 1)) ∧
    (∀ M Q, CS u en B p c M → (∀ M', CS u en B p' c' M' → only TCx M M' → Q ok M') → l_X2_readLevel_39 (wp_X2_readLevel f) (wp_X2_readFactor f) (wp_X2_readDenied f) (wp_X2_readEnclosed f) 98 Q (nI L) (nI o) 50 n (nI i) M) ∧ (∀ M Q, MX u en B p c 1 o M → (∀ M', MX u en B p' c' ok o M' → OX M M' → Q M') → mL Q n' M) := by
  intro k
  induction k with
  | zero =>
    intro p c d i hk hp hc hw hi
    have nl : ¬ lvZ (bAt en B p) = nI L := fun z => by have := bAt_in hL z; omega
    refine ⟨1, p, c, 1, 1, Or.inr rfl, ⟨Nat.le_refl _, hp⟩, fun _ => ⟨by omega, hw⟩, fun M Q hM hQ => ?_, fun M Q hM hQ => hstop Q 0 M p c hM hp nl (hQ M hM OX.rf)⟩
    show B_X2_readLevel_39 _ _ _ _ 98 Q _ _ _ _ _ _
    unfold B_X2_readLevel_39
    have g := hQ M hM only.rf
    refine ⟨fun _ => g, fun _ => c_next hM he hp (sp_level ⟨fun _ => g, fun z => absurd z nl⟩)⟩
  | succ k ih =>
    intro p c d i hk hp hc hw hi
    by_cases nl : lvZ (bAt en B p) = nI L
    · have hpe := bAt_in hL nl
      have hsg := lv_sg hL nl
      obtain ⟨ok1, p1, c1, h1, h2, h3, h4, h5⟩ := sub (p + 1) c (d + 1) (by omega) (by omega) hw
      -- a sign, and what it takes
      rcases h1 with rfl | rfl
      · refine ⟨0, p1, c1, 1, 2, Or.inl rfl, ⟨by omega, h2.2⟩, fun z => absurd z (by decide), fun M Q hM hQ => ?_, fun M Q hM hQ => ?_⟩
        · show B_X2_readLevel_39 _ _ _ _ 98 Q _ _ _ _ _ _
          unfold B_X2_readLevel_39
          refine br_f (nI_ge (a := i) (b := 50) (by omega) (by decide)) (c_next hM he hp (sp_level ⟨fun z => absurd nl z, fun _ => c_next hM he hp ?_⟩))
          intro M1 e1
          subst e1
          rw [nI_1]
          exact h4 _ _ hM.go (fun M2 c2 o2 => ⟨fun z => absurd rfl z, fun _ => hQ M2 c2 (c_go.tr o2)⟩)
        · refine hstep Q 1 M p c hM hpe nl (fun M1 m1 o1 => h5 _ _ m1 (fun M2 m2 o2 => m_adds0 m2 (hstop0 Q 0 M2 p1 c1 m2 (hQ M2 m2 (o1.tr o2)))))
      · obtain ⟨a1, a2, a3⟩ := h3 rfl
        obtain ⟨ok2, p2, c2, n, n', b1, b2, b3, b4, b5⟩ := ih p1 (c1 ++ [20000 + bAt en B p]) d (i + 1) (by omega) h2.2 (by simp; omega) (a3.sgn hsg) (by omega)
        refine ⟨ok2, p2, c2, n + 1, n' + 1, b1, ⟨by omega, b2.2⟩, fun z => ⟨by have := (b3 z).1; simp at this; omega, (b3 z).2⟩, fun M Q hM hQ => ?_, fun M Q hM hQ => ?_⟩
        · show B_X2_readLevel_39 _ _ _ _ 98 Q _ _ _ _ _ _
          unfold B_X2_readLevel_39
          refine br_f (nI_ge (a := i) (b := 50) (by omega) (by decide)) (c_next hM he hp (sp_level ⟨fun z => absurd nl z, fun _ => c_next hM he hp ?_⟩))
          intro M1 e1
          subst e1
          rw [nI_1]
          refine h4 _ _ hM.go (fun M2 c2' o2 => ⟨fun _ => ?_, fun z => absurd z (by decide)⟩)
          rw [← (sg_all _ hsg).1]
          refine c_app c2' (by omega) (fun M3 c3 o3 => ?_)
          intro x ex
          rw [nI_1] at ex
          subst ex
          exact b4 M3 Q c3 (fun M4 c4 o4 => hQ M4 c4 (((c_go.tr o2).tr o3).tr o4))
        · refine hstep Q n' M p c hM hpe nl (fun M1 m1 o1 => h5 _ _ m1 (fun M2 m2 o2 => m_adds m2 (by omega) (fun M3 m3 o3 => b5 M3 Q m3 (fun M4 m4 o4 => hQ M4 m4 (((o1.tr o2).tr o3).tr o4)))))
    · refine ⟨1, p, c, 1, 1, Or.inr rfl, ⟨Nat.le_refl _, hp⟩, fun _ => ⟨by omega, hw⟩, fun M Q hM hQ => ?_, fun M Q hM hQ => hstop Q 0 M p c hM hp nl (hQ M hM OX.rf)⟩
      show B_X2_readLevel_39 _ _ _ _ 98 Q _ _ _ _ _ _
      unfold B_X2_readLevel_39
      have g := hQ M hM only.rf
      refine ⟨fun _ => g, fun _ => c_next hM he hp (sp_level ⟨fun _ => g, fun z => absurd z nl⟩)⟩
theorem lev_loop {L f o : Nat} (he : en ≤ 50) (hL : L ≤ 4) (hL2 : L ≠ 2) {mSub mW : Mem → (Mem → Prop) → Prop} (sub : PR u en B o (fun M Q => wp_X2_readLevel f 98 (nI (L + 1)) (nI o) M Q) mSub) (mL : (Mem → Prop) → Nat → Mem → Prop)
    (hW : ∀ M Q, mSub M (fun M16 => ∃ n, mL Q n M16) → mW M Q)
    (hstop : ∀ Q n M p c, MX u en B p c 1 o M → p ≤ en → ¬ lvZ (bAt en B p) = nI L → Q M → mL Q (n + 1) M) (hstop0 : ∀ Q n M p c, MX u en B p c 0 o M → Q M → mL Q (n + 1) M)
    (hstep : ∀ Q n M p c, MX u en B p c 1 o M → p < en → lvZ (bAt en B p) = nI L → (∀ M', MX u en B (p + 1) c 1 o M' → OX M M' → mSub M' (fun M2 => wp_X10_adds 120 (20000 + bAt en B p) M2 (fun M3 => mL Q n M3))) → mL Q (n + 1) M) :
    PR u en B o (fun M Q => wp_X2_readLevel (f + 1) 98 (nI L) (nI o) M Q) mW := by
  intro p c d hp hc hw
  have l5 : nI L < 5 := nI_lt (b := 5) (by omega) (by decide)
  have l2 : ¬ nI L = 2 := fun z => hL2 ((nI_eq (a := L) (b := 2) (by omega) (by decide)).mp z)
  obtain ⟨ok1, p1, c1, h1, h2, h3, h4, h5⟩ := sub p c d hp hc hw
  rcases h1 with rfl | rfl
  · refine ⟨0, p1, c1, Or.inl rfl, h2, fun z => absurd z (by decide), fun M Q hM hQ => ?_, fun M Q hM hQ => ?_⟩
    · dsimp only
      rw [rL]
      unfold wb_X2_readLevel
      refine ⟨by decide, br_t l5 ?_⟩
      rw [nI_1]
      exact h4 _ _ hM (fun M1 m1 o1 => ⟨fun z => absurd rfl z, fun _ => hQ M1 m1 o1⟩)
    · exact hW M Q (h5 _ _ hM (fun M1 m1 o1 => ⟨1, hstop0 Q 0 M1 p1 c1 m1 (hQ M1 m1 o1)⟩))
  · obtain ⟨a1, a2, a3⟩ := h3 rfl
    obtain ⟨ok2, p2, c2, n, n', b1, b2, b3, b4, b5⟩ := loop_run he hL sub mL hstop hstop0 hstep (en - p1) p1 c1 d 0 (by omega) h2.2 (by omega) a3 (by omega)
    refine ⟨ok2, p2, c2, b1, ⟨by omega, b2.2⟩, fun z => ⟨by omega, by have := (b3 z).1; omega, (b3 z).2⟩, fun M Q hM hQ => ?_, fun M Q hM hQ => ?_⟩
    · dsimp only
      rw [rL]
      unfold wb_X2_readLevel
      refine ⟨by decide, br_t l5 ?_⟩
      rw [nI_1]
      refine h4 _ _ hM (fun M1 m1 o1 => ⟨fun _ => ⟨fun _ => ?_, fun z => absurd z l2⟩, fun z => absurd z (by decide)⟩)
      unfold b_X2_readLevel_35
      exact ⟨n, b4 M1 Q m1 (fun M2 m2 o2 => hQ M2 m2 (o1.tr o2))⟩
    · exact hW M Q (h5 _ _ hM (fun M1 m1 o1 => ⟨n', b5 M1 Q m1 (fun M2 m2 o2 => hQ M2 m2 (o1.tr o2))⟩))
theorem lev5 {f o : Nat} {mW : Mem → (Mem → Prop) → Prop} (sub : PR u en B o (fun M Q => wp_X2_readFactor f 98 (nI o) M Q) mW) : PR u en B o (fun M Q => wp_X2_readLevel (f + 1) 98 (nI 5) (nI o) M Q) mW := by
  intro p c d hp hc hw
  obtain ⟨ok1, p1, c1, h1, h2, h3, h4, h5⟩ := sub p c d hp hc hw
  refine ⟨ok1, p1, c1, h1, h2, h3, fun M Q hM hQ => ?_, h5⟩
  dsimp only
  rw [rL]
  unfold wb_X2_readLevel
  refine ⟨by decide, br_f (by decide) ?_⟩
  exact h4 _ _ hM (fun M1 m1 o1 => ⟨h1, hQ M1 m1 o1⟩)
theorem lev4 {f g o : Nat} (he : en ≤ 50) (sub : PR u en B o (fun M Q => wp_X2_readLevel f 98 (nI 5) (nI o) M Q) (fun M Q => wp_X10_factor g 120 M Q)) : PR u en B o (fun M Q => wp_X2_readLevel (f + 1) 98 (nI 4) (nI o) M Q) (fun M Q => wp_X10_product (g + 1) 120 M Q) := by
  refine lev_loop (L := 4) he (by omega) (by omega) sub (fun Q n M => l_X10_product_4 (wp_X10_factor g) (wp_X10_product g) (wp_X10_sum g) (wp_X10_compared g) (wp_X10_both g) (wp_X10_whole g) 120 Q n M) (fun M Q h => ?_) (fun Q n M p c hM hp hl hQ => ?_) (fun Q n M p c hM hQ => ?_) (fun Q n M p c hM hp hl hs => ?_)
  · rw [tP]
    unfold wb_X10_product
    exact ⟨by decide, h⟩
  · show B_X10_product_4 _ _ _ _ _ _ 120 Q _ _
    unfold B_X10_product_4
    rw [lv4] at hl
    rw [hM.2.1.2.2]
    refine ⟨fun z => absurd z (by decide), fun _ => m_byte hM he hp ⟨fun z => absurd (Or.inl z) hl, fun _ => m_byte hM he hp ⟨fun z => absurd (Or.inr (Or.inl z)) hl, fun _ => m_byte hM he hp ⟨fun _ => hQ, fun z => absurd (Or.inr (Or.inr z)) hl⟩⟩⟩⟩
  · show B_X10_product_4 _ _ _ _ _ _ 120 Q _ _
    unfold B_X10_product_4
    rw [hM.2.1.2.2]
    exact ⟨fun _ => hQ, fun z => absurd rfl z⟩
  · show B_X10_product_4 _ _ _ _ _ _ 120 Q _ _
    unfold B_X10_product_4
    rw [lv4] at hl
    rw [hM.2.1.2.2]
    have go : b_X10_product_50 (wp_X10_factor g) (wp_X10_product g) (wp_X10_sum g) (wp_X10_compared g) (wp_X10_both g) (wp_X10_whole g) 120 Q (l_X10_product_4 (wp_X10_factor g) (wp_X10_product g) (wp_X10_sum g) (wp_X10_compared g) (wp_X10_both g) (wp_X10_whole g) 120 Q n) M := by
      unfold b_X10_product_50
      refine m_byte hM he (by omega) ?_
      intro M1 e1
      subst e1
      exact hs _ hM.go (OX.mu (by omega))
    refine ⟨fun z => absurd z (by decide), fun _ => m_byte hM he (by omega) ⟨fun _ => go, fun z1 => m_byte hM he (by omega) ⟨fun _ => go, fun z2 => m_byte hM he (by omega) ⟨fun z3 => ?_, fun _ => go⟩⟩⟩⟩
    rcases hl with q | q | q
    · exact absurd q z1
    · exact absurd q z2
    · exact absurd q z3
theorem lev3 {f g o : Nat} (he : en ≤ 50) (sub : PR u en B o (fun M Q => wp_X2_readLevel f 98 (nI 4) (nI o) M Q) (fun M Q => wp_X10_product g 120 M Q)) : PR u en B o (fun M Q => wp_X2_readLevel (f + 1) 98 (nI 3) (nI o) M Q) (fun M Q => wp_X10_sum (g + 1) 120 M Q) := by
  refine lev_loop (L := 3) he (by omega) (by omega) sub (fun Q n M => l_X10_sum_4 (wp_X10_factor g) (wp_X10_product g) (wp_X10_sum g) (wp_X10_compared g) (wp_X10_both g) (wp_X10_whole g) 120 Q n M) (fun M Q h => ?_) (fun Q n M p c hM hp hl hQ => ?_) (fun Q n M p c hM hQ => ?_) (fun Q n M p c hM hp hl hs => ?_)
  · rw [tS]
    unfold wb_X10_sum
    exact ⟨by decide, h⟩
  · show B_X10_sum_4 _ _ _ _ _ _ 120 Q _ _
    unfold B_X10_sum_4
    rw [lv3] at hl
    rw [hM.2.1.2.2]
    refine ⟨fun z => absurd z (by decide), fun _ => m_byte hM he hp ⟨fun z => absurd (Or.inl z) hl, fun _ => m_byte hM he hp ⟨fun _ => hQ, fun z => absurd (Or.inr z) hl⟩⟩⟩
  · show B_X10_sum_4 _ _ _ _ _ _ 120 Q _ _
    unfold B_X10_sum_4
    rw [hM.2.1.2.2]
    exact ⟨fun _ => hQ, fun z => absurd rfl z⟩
  · show B_X10_sum_4 _ _ _ _ _ _ 120 Q _ _
    unfold B_X10_sum_4
    rw [lv3] at hl
    rw [hM.2.1.2.2]
    have go : b_X10_sum_37 (wp_X10_factor g) (wp_X10_product g) (wp_X10_sum g) (wp_X10_compared g) (wp_X10_both g) (wp_X10_whole g) 120 Q (l_X10_sum_4 (wp_X10_factor g) (wp_X10_product g) (wp_X10_sum g) (wp_X10_compared g) (wp_X10_both g) (wp_X10_whole g) 120 Q n) M := by
      unfold b_X10_sum_37
      refine m_byte hM he (by omega) ?_
      intro M1 e1
      subst e1
      exact hs _ hM.go (OX.mu (by omega))
    refine ⟨fun z => absurd z (by decide), fun _ => m_byte hM he (by omega) ⟨fun _ => go, fun z1 => m_byte hM he (by omega) ⟨fun z2 => ?_, fun _ => go⟩⟩⟩
    rcases hl with q | q
    · exact absurd q z1
    · exact absurd q z2
theorem lev1 {f g o : Nat} (he : en ≤ 50) (sub : PR u en B o (fun M Q => wp_X2_readLevel f 98 (nI 2) (nI o) M Q) (fun M Q => wp_X10_compared g 120 M Q)) : PR u en B o (fun M Q => wp_X2_readLevel (f + 1) 98 (nI 1) (nI o) M Q) (fun M Q => wp_X10_both (g + 1) 120 M Q) := by
  refine lev_loop (L := 1) he (by omega) (by omega) sub (fun Q n M => l_X10_both_4 (wp_X10_factor g) (wp_X10_product g) (wp_X10_sum g) (wp_X10_compared g) (wp_X10_both g) (wp_X10_whole g) 120 Q n M) (fun M Q h => ?_) (fun Q n M p c hM hp hl hQ => ?_) (fun Q n M p c hM hQ => ?_) (fun Q n M p c hM hp hl hs => ?_)
  · rw [tB]
    unfold wb_X10_both
    exact ⟨by decide, h⟩
  · show B_X10_both_4 _ _ _ _ _ _ 120 Q _ _
    unfold B_X10_both_4
    rw [lv1] at hl
    rw [hM.2.1.2.2]
    refine ⟨fun z => absurd z (by decide), fun _ => m_byte hM he hp ⟨fun _ => hQ, fun z => absurd z hl⟩⟩
  · show B_X10_both_4 _ _ _ _ _ _ 120 Q _ _
    unfold B_X10_both_4
    rw [hM.2.1.2.2]
    exact ⟨fun _ => hQ, fun z => absurd rfl z⟩
  · show B_X10_both_4 _ _ _ _ _ _ 120 Q _ _
    unfold B_X10_both_4
    rw [lv1] at hl
    rw [hM.2.1.2.2]
    refine ⟨fun z => absurd z (by decide), fun _ => m_byte hM he (by omega) ⟨fun z => absurd hl z, fun _ => ?_⟩⟩
    intro M1 e1
    subst e1
    rw [hl] at hs
    exact hs _ hM.go (OX.mu (by omega))
theorem lev0 {f g o : Nat} (he : en ≤ 50) (sub : PR u en B o (fun M Q => wp_X2_readLevel f 98 (nI 1) (nI o) M Q) (fun M Q => wp_X10_both g 120 M Q)) : PR u en B o (fun M Q => wp_X2_readLevel (f + 1) 98 (nI 0) (nI o) M Q) (fun M Q => wp_X10_whole (g + 1) 120 M Q) := by
  refine lev_loop (L := 0) he (by omega) (by omega) sub (fun Q n M => l_X10_whole_4 (wp_X10_factor g) (wp_X10_product g) (wp_X10_sum g) (wp_X10_compared g) (wp_X10_both g) (wp_X10_whole g) 120 Q n M) (fun M Q h => ?_) (fun Q n M p c hM hp hl hQ => ?_) (fun Q n M p c hM hQ => ?_) (fun Q n M p c hM hp hl hs => ?_)
  · rw [tW]
    unfold wb_X10_whole
    exact ⟨by decide, h⟩
  · show B_X10_whole_4 _ _ _ _ _ _ 120 Q _ _
    unfold B_X10_whole_4
    rw [lv0] at hl
    rw [hM.2.1.2.2]
    refine ⟨fun z => absurd z (by decide), fun _ => m_byte hM he hp ⟨fun _ => hQ, fun z => absurd z hl⟩⟩
  · show B_X10_whole_4 _ _ _ _ _ _ 120 Q _ _
    unfold B_X10_whole_4
    rw [hM.2.1.2.2]
    exact ⟨fun _ => hQ, fun z => absurd rfl z⟩
  · show B_X10_whole_4 _ _ _ _ _ _ 120 Q _ _
    unfold B_X10_whole_4
    rw [lv0] at hl
    rw [hM.2.1.2.2]
    refine ⟨fun z => absurd z (by decide), fun _ => m_byte hM he (by omega) ⟨fun z => absurd hl z, fun _ => ?_⟩⟩
    intro M1 e1
    subst e1
    rw [hl] at hs
    exact hs _ hM.go (OX.mu (by omega))
theorem lev2 {f g o : Nat} (he : en ≤ 50) (sub : PR u en B o (fun M Q => wp_X2_readLevel f 98 (nI 3) (nI o) M Q) (fun M Q => wp_X10_sum g 120 M Q)) : PR u en B o (fun M Q => wp_X2_readLevel (f + 1) 98 (nI 2) (nI o) M Q) (fun M Q => wp_X10_compared (g + 1) 120 M Q) := by
  intro p c d hp hc hw
  obtain ⟨ok1, p1, c1, h1, h2, h3, h4, h5⟩ := sub p c d hp hc hw
  have cl : ∀ (M : Mem) (Q : Int32 → Mem → Prop), wp_X2_readLevel f 98 (nI 3) (nI o) M (fun r_18 M_17 => (¬ r_18 = 0 → b_X2_readLevel_35 (wp_X2_readLevel f) (wp_X2_readFactor f) (wp_X2_readDenied f) (wp_X2_readEnclosed f) 98 Q 2 (nI o) 1 M_17) ∧ (r_18 = 0 → Q 0 M_17)) → wp_X2_readLevel (f + 1) 98 (nI 2) (nI o) M Q := by
    intro M Q h
    rw [rL]
    unfold wb_X2_readLevel
    refine ⟨by decide, br_t (by decide) ?_⟩
    have e : ∀ (P1 P2 P3 : Int32 → Mem → Prop), (fun r_18 M_17 => (¬ r_18 = 0 → (¬ (nI 2 : Int32) = 2 → P1 r_18 M_17) ∧ ((nI 2 : Int32) = 2 → P2 r_18 M_17)) ∧ (r_18 = 0 → P3 r_18 M_17)) = (fun (r_18 : Int32) (M_17 : Mem) => (¬ r_18 = 0 → P2 r_18 M_17) ∧ (r_18 = 0 → P3 r_18 M_17)) := by
      intro P1 P2 P3
      funext r M1
      have z : (nI 2 : Int32) = 2 := rfl
      simp [z]
    rw [e (fun _ M_17 => b_X2_readLevel_35 (wp_X2_readLevel f) (wp_X2_readFactor f) (wp_X2_readDenied f) (wp_X2_readEnclosed f) 98 Q (nI 2) (nI o) 50 M_17) (fun _ M_17 => b_X2_readLevel_35 (wp_X2_readLevel f) (wp_X2_readFactor f) (wp_X2_readDenied f) (wp_X2_readEnclosed f) 98 Q (nI 2) (nI o) 1 M_17) (fun _ M_17 => Q 0 M_17)]
    exact h
  have ml : ∀ (M : Mem) (Q : Mem → Prop), wp_X10_sum g 120 M (fun M_7 => ((M_7 120 11) = 0 → b_X10_compared_23 (wp_X10_factor g) (wp_X10_product g) (wp_X10_sum g) (wp_X10_compared g) (wp_X10_both g) (wp_X10_whole g) 120 Q (-1) M_7) ∧ (¬ (M_7 120 11) = 0 → wp_X10_byteAt 120 (M_7 120 7) M_7 (fun r_10 M_9 => b_X10_compared_23 (wp_X10_factor g) (wp_X10_product g) (wp_X10_sum g) (wp_X10_compared g) (wp_X10_both g) (wp_X10_whole g) 120 Q r_10 M_9))) → wp_X10_compared (g + 1) 120 M Q := by
    intro M Q h
    rw [tC]
    unfold wb_X10_compared
    exact ⟨by decide, h⟩
  rcases h1 with rfl | rfl
  · refine ⟨0, p1, c1, Or.inl rfl, h2, fun z => absurd z (by decide), fun M Q hM hQ => cl M Q (h4 _ _ hM (fun M1 m1 o1 => ⟨fun z => absurd rfl z, fun _ => hQ M1 m1 o1⟩)), fun M Q hM hQ => ml M Q (h5 _ _ hM (fun M1 m1 o1 => ?_))⟩
    rw [m1.2.1.2.2]
    refine ⟨fun _ => ?_, fun z => absurd rfl z⟩
    unfold b_X10_compared_23
    exact ⟨fun z => absurd z (by decide), fun _ => ⟨fun z => absurd z (by decide), fun _ => ⟨fun _ => hQ M1 m1 o1, fun z => absurd z (by decide)⟩⟩⟩
  · obtain ⟨a1, a2, a3⟩ := h3 rfl
    by_cases nl : lvZ (bAt en B p1) = nI 2
    · have hpe := bAt_in (by omega) nl
      have hsg := lv_sg (by omega) nl
      obtain ⟨ok2, p2, c2, b1, b2, b3, b4, b5⟩ := sub (p1 + 1) c1 (d + 1) (by omega) (by omega) a3
      have cstep : ∀ (M1 : Mem) (Q : Int32 → Mem → Prop), CS u en B p1 c1 M1 → wp_X2_readLevel f 98 (nI 3) (nI o) (mu M1 98 3 ((M1 98 3) + 1)) (fun r_11 M_10 => (¬ r_11 = 0 → wp_X3_append 101 (-(bAt en B p1)) M_10 (fun r_14 M_13 => ∀ x_15 : Int32, x_15 = (0 : Int32) + 1 → l_X2_readLevel_39 (wp_X2_readLevel f) (wp_X2_readFactor f) (wp_X2_readDenied f) (wp_X2_readEnclosed f) 98 Q 2 (nI o) 1 1 x_15 M_13)) ∧ (r_11 = 0 → Q 0 M_10)) → b_X2_readLevel_35 (wp_X2_readLevel f) (wp_X2_readFactor f) (wp_X2_readDenied f) (wp_X2_readEnclosed f) 98 Q 2 (nI o) 1 M1 := by
        intro M1 Q m1 h
        unfold b_X2_readLevel_35
        refine ⟨2, ?_⟩
        show B_X2_readLevel_39 _ _ _ _ 98 Q _ _ _ _ _ _
        unfold B_X2_readLevel_39
        refine br_f (by decide) (c_next m1 he h2.2 (sp_level ⟨fun z => absurd nl z, fun _ => c_next m1 he h2.2 ?_⟩))
        intro M2 e2
        subst e2
        exact h
      have mstep : ∀ (M1 : Mem) (Q : Mem → Prop), MX u en B p1 c1 1 o M1 → wp_X10_sum g 120 (mu M1 120 7 ((M1 120 7) + 1)) (fun M_2 => wp_X10_adds 120 (20000 + bAt en B p1) M_2 (fun M_3 => Q M_3)) → b_X10_compared_23 (wp_X10_factor g) (wp_X10_product g) (wp_X10_sum g) (wp_X10_compared g) (wp_X10_both g) (wp_X10_whole g) 120 Q (bAt en B p1) M1 := by
        intro M1 Q m1 h
        unfold b_X10_compared_23
        have go : b_X10_compared_42 (wp_X10_factor g) (wp_X10_product g) (wp_X10_sum g) (wp_X10_compared g) (wp_X10_both g) (wp_X10_whole g) 120 Q (bAt en B p1) M1 := by
          unfold b_X10_compared_42
          intro M2 e2
          subst e2
          exact h
        refine ⟨fun _ => go, fun z1 => ⟨fun _ => go, fun z2 => ⟨fun z3 => ?_, fun _ => go⟩⟩⟩
        rcases (lv2 _).mp nl with q | q | q
        · exact absurd q z1
        · exact absurd q z2
        · exact absurd q z3
      rcases b1 with rfl | rfl
      · refine ⟨0, p2, c2, Or.inl rfl, ⟨by omega, b2.2⟩, fun z => absurd z (by decide), fun M Q hM hQ => cl M Q (h4 _ _ hM (fun M1 m1 o1 => ⟨fun _ => cstep M1 Q m1 (b4 _ _ m1.go (fun M2 m2 o2 => ⟨fun z => absurd rfl z, fun _ => hQ M2 m2 ((o1.tr c_go).tr o2)⟩)), fun z => absurd z (by decide)⟩)), fun M Q hM hQ => ml M Q (h5 _ _ hM (fun M1 m1 o1 => ?_))⟩
        rw [m1.2.1.2.2]
        refine ⟨fun z => absurd z (by decide), fun _ => m_byte m1 he h2.2 (mstep M1 Q m1 (b5 _ _ m1.go (fun M2 m2 o2 => m_adds0 m2 (hQ M2 m2 ((o1.tr (OX.mu (by omega))).tr o2)))))⟩
      · obtain ⟨d1, d2, d3⟩ := b3 rfl
        refine ⟨1, p2, c2 ++ [20000 + bAt en B p1], Or.inr rfl, ⟨by omega, b2.2⟩, fun _ => ⟨by omega, by simp; omega, d3.sgn hsg⟩, fun M Q hM hQ => cl M Q (h4 _ _ hM (fun M1 m1 o1 => ⟨fun _ => cstep M1 Q m1 (b4 _ _ m1.go (fun M2 m2 o2 => ⟨fun _ => ?_, fun z => absurd z (by decide)⟩)), fun z => absurd z (by decide)⟩)), fun M Q hM hQ => ml M Q (h5 _ _ hM (fun M1 m1 o1 => ?_))⟩
        · rw [← (sg_all _ hsg).1]
          refine c_app m2 (by omega) (fun M3 m3 o3 => ?_)
          intro x ex
          subst ex
          show B_X2_readLevel_39 _ _ _ _ 98 Q _ _ _ _ _ _
          unfold B_X2_readLevel_39
          exact br_t (by decide) (hQ M3 m3 (((o1.tr c_go).tr o2).tr o3))
        · rw [m1.2.1.2.2]
          refine ⟨fun z => absurd z (by decide), fun _ => m_byte m1 he h2.2 (mstep M1 Q m1 (b5 _ _ m1.go (fun M2 m2 o2 => m_adds m2 (by omega) (fun M3 m3 o3 => hQ M3 m3 (((o1.tr (OX.mu (by omega))).tr o2).tr o3)))))⟩
    · refine ⟨1, p1, c1, Or.inr rfl, h2, fun _ => ⟨a1, a2, a3⟩, fun M Q hM hQ => cl M Q (h4 _ _ hM (fun M1 m1 o1 => ⟨fun _ => ?_, fun z => absurd z (by decide)⟩)), fun M Q hM hQ => ml M Q (h5 _ _ hM (fun M1 m1 o1 => ?_))⟩
      · unfold b_X2_readLevel_35
        refine ⟨1, ?_⟩
        show B_X2_readLevel_39 _ _ _ _ 98 Q _ _ _ _ _ _
        unfold B_X2_readLevel_39
        exact br_f (by decide) (c_next m1 he h2.2 (sp_level ⟨fun _ => hQ M1 m1 o1, fun z => absurd z nl⟩))
      · rw [m1.2.1.2.2]
        refine ⟨fun z => absurd z (by decide), fun _ => m_byte m1 he h2.2 ?_⟩
        rw [lv2] at nl
        unfold b_X10_compared_23
        exact ⟨fun z => absurd (Or.inl z) nl, fun _ => ⟨fun z => absurd (Or.inr (Or.inl z)) nl, fun _ => ⟨fun _ => hQ M1 m1 o1, fun z => absurd (Or.inr (Or.inr z)) nl⟩⟩⟩
end
