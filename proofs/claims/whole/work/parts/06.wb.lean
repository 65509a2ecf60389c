def wp_X0_join (a0 : Int32) (a1 : Int32) (a2 : Int32) (M : Mem) (Q : Int32 → Mem → Prop) : Prop :=
  (a0 = 38 → (a1 = 0 → Q 0 M) ∧ (¬ a1 = 0 → (a2 = 0 → Q 0 M) ∧ (¬ a2 = 0 → Q 1 M))) ∧ (a0 = 42 → Q (a1 * a2) M) ∧ (a0 = 43 → Q (a1 + a2) M) ∧ (a0 = 45 → Q (a1 - a2) M) ∧ (a0 = 47 → (¬ a2 = 0 → ¬ a2 = 0 ∧ (Q (a1 / a2) M)) ∧ (a2 = 0 → Q 0 M)) ∧ (a0 = 60 → (a2 ≤ a1 → Q 0 M) ∧ (¬ a2 ≤ a1 → Q 1 M)) ∧ (a0 = 61 → (¬ a1 = a2 → Q 0 M) ∧ (a1 = a2 → Q 1 M)) ∧ (a0 = 62 → (a1 ≤ a2 → Q 0 M) ∧ (¬ a1 ≤ a2 → Q 1 M)) ∧ (a0 = 124 → (¬ a1 = 0 → Q 1 M) ∧ (a1 = 0 → (a2 = 0 → Q 0 M) ∧ (¬ a2 = 0 → Q 1 M))) ∧ (¬ a0 = 38 → ¬ a0 = 42 → ¬ a0 = 43 → ¬ a0 = 45 → ¬ a0 = 47 → ¬ a0 = 60 → ¬ a0 = 61 → ¬ a0 = 62 → ¬ a0 = 124 → (¬ a2 = 0 → ¬ a2 = 0 ∧ (Q (irm a1 a2) M)) ∧ (a2 = 0 → Q 0 M))
set_option maxHeartbeats 4000000 in
set_option maxRecDepth 100000 in
theorem so_X0_join (l : Launch) (G : Gm) (a0 : Int32) (a1 : Int32) (a2 : Int32) (M : Mem) (Q : Int32 → Mem → Prop) (hw : wp_X0_join a0 a1 a2 M Q) : Ct l G yX0_join cX0_join 3 (some .int) ({ frames := 0, cells := 0, slots := 0, locals := 0 } : Room) [.int a0, .int a1, .int a2] M (Qi Q) := by
  unfold wp_X0_join at hw
  refine ct_of (by decide) (Nat.le_of_ble_eq_true rfl) ?_
  intro p e s m below meth c E_ ls H hl hP hS
  obtain ⟨hx, hb, hml, hown, hts, ht, hr, hlocks, hSt, hTb⟩ := E_
  have hl : lv_has ls 3 [(0, .int a0), (1, .int a1), (2, .int a2)] := hl
  refine lv_iload_n hx hb dX0_join_0 rfl (lv_at hl 0 rfl) ?_
  by_cases c_1 : a0 = 38
  · have hw := hw.1 c_1
    refine mw_lcase (tgt := 98) (off := 97) hx hb dX0_join_1 c_1 (by decide) (by decide) ?_
    refine lv_iload_n hx hb dX0_join_98 rfl (lv_at hl 1 rfl) ?_
    refine lv_if_eq (tgt := 110) hx hb dX0_join_99 (by decide) (fun c_2 => ?_) (fun c_2 => ?_)
    · have hw := hw.1 c_2
      refine lv_iconst (v := 0) hx hb dX0_join_110 (by decide) ?_
      exact W.iret hx hb hr (mw_end hP hSt hTb hS ⟨_, rfl, hw⟩) hS.2.2 dX0_join_111
    · have hw := hw.2 c_2
      refine lv_iload_n hx hb dX0_join_102 rfl (lv_at hl 2 rfl) ?_
      refine lv_if_eq (tgt := 110) hx hb dX0_join_103 (by decide) (fun c_3 => ?_) (fun c_3 => ?_)
      · have hw := hw.1 c_3
        refine lv_iconst (v := 0) hx hb dX0_join_110 (by decide) ?_
        exact W.iret hx hb hr (mw_end hP hSt hTb hS ⟨_, rfl, hw⟩) hS.2.2 dX0_join_111
      · have hw := hw.2 c_3
        refine lv_iconst (v := 1) hx hb dX0_join_106 (by decide) ?_
        refine lv_goto (tgt := 111) hx hb dX0_join_107 (by decide) ?_
        exact W.iret hx hb hr (mw_end hP hSt hTb hS ⟨_, rfl, hw⟩) hS.2.2 dX0_join_111
  by_cases c_4 : a0 = 42
  · have hw := hw.2.1 c_4
    refine mw_lcase (tgt := 153) (off := 152) hx hb dX0_join_1 c_4 (by decide) (by decide) ?_
    refine lv_iload_n hx hb dX0_join_153 rfl (lv_at hl 1 rfl) ?_
    refine lv_iload_n hx hb dX0_join_154 rfl (lv_at hl 2 rfl) ?_
    refine lv_imul hx hb dX0_join_155 ?_
    exact W.iret hx hb hr (mw_end hP hSt hTb hS ⟨_, rfl, hw⟩) hS.2.2 dX0_join_156
  by_cases c_5 : a0 = 43
  · have hw := hw.2.2.1 c_5
    refine mw_lcase (tgt := 145) (off := 144) hx hb dX0_join_1 c_5 (by decide) (by decide) ?_
    refine lv_iload_n hx hb dX0_join_145 rfl (lv_at hl 1 rfl) ?_
    refine lv_iload_n hx hb dX0_join_146 rfl (lv_at hl 2 rfl) ?_
    refine lv_iadd hx hb dX0_join_147 ?_
    exact W.iret hx hb hr (mw_end hP hSt hTb hS ⟨_, rfl, hw⟩) hS.2.2 dX0_join_148
  by_cases c_6 : a0 = 45
  · have hw := hw.2.2.2.1 c_6
    refine mw_lcase (tgt := 149) (off := 148) hx hb dX0_join_1 c_6 (by decide) (by decide) ?_
    refine lv_iload_n hx hb dX0_join_149 rfl (lv_at hl 1 rfl) ?_
    refine lv_iload_n hx hb dX0_join_150 rfl (lv_at hl 2 rfl) ?_
    refine lv_isub hx hb dX0_join_151 ?_
    exact W.iret hx hb hr (mw_end hP hSt hTb hS ⟨_, rfl, hw⟩) hS.2.2 dX0_join_152
  by_cases c_7 : a0 = 47
  · have hw := hw.2.2.2.2.1 c_7
    refine mw_lcase (tgt := 157) (off := 156) hx hb dX0_join_1 c_7 (by decide) (by decide) ?_
    refine lv_iload_n hx hb dX0_join_157 rfl (lv_at hl 2 rfl) ?_
    refine lv_if_ne (tgt := 165) hx hb dX0_join_158 (by decide) (fun c_8 => ?_) (fun c_8 => ?_)
    · have hw := hw.1 c_8
      refine lv_iload_n hx hb dX0_join_165 rfl (lv_at hl 1 rfl) ?_
      refine lv_iload_n hx hb dX0_join_166 rfl (lv_at hl 2 rfl) ?_
      obtain ⟨c_9, hw⟩ := hw
      refine lv_idiv hx hb dX0_join_167 c_9 ?_
      exact W.iret hx hb hr (mw_end hP hSt hTb hS ⟨_, rfl, hw⟩) hS.2.2 dX0_join_168
    · have hw := hw.2 c_8
      refine lv_iconst (v := 0) hx hb dX0_join_161 (by decide) ?_
      refine lv_goto (tgt := 168) hx hb dX0_join_162 (by decide) ?_
      exact W.iret hx hb hr (mw_end hP hSt hTb hS ⟨_, rfl, hw⟩) hS.2.2 dX0_join_168
  by_cases c_10 : a0 = 60
  · have hw := hw.2.2.2.2.2.1 c_10
    refine mw_lcase (tgt := 112) (off := 111) hx hb dX0_join_1 c_10 (by decide) (by decide) ?_
    refine lv_iload_n hx hb dX0_join_112 rfl (lv_at hl 1 rfl) ?_
    refine lv_iload_n hx hb dX0_join_113 rfl (lv_at hl 2 rfl) ?_
    refine lv_icmp_ge (tgt := 121) hx hb dX0_join_114 (by decide) (fun c_11 => ?_) (fun c_11 => ?_)
    · have hw := hw.1 c_11
      refine lv_iconst (v := 0) hx hb dX0_join_121 (by decide) ?_
      exact W.iret hx hb hr (mw_end hP hSt hTb hS ⟨_, rfl, hw⟩) hS.2.2 dX0_join_122
    · have hw := hw.2 c_11
      refine lv_iconst (v := 1) hx hb dX0_join_117 (by decide) ?_
      refine lv_goto (tgt := 122) hx hb dX0_join_118 (by decide) ?_
      exact W.iret hx hb hr (mw_end hP hSt hTb hS ⟨_, rfl, hw⟩) hS.2.2 dX0_join_122
  by_cases c_12 : a0 = 61
  · have hw := hw.2.2.2.2.2.2.1 c_12
    refine mw_lcase (tgt := 123) (off := 122) hx hb dX0_join_1 c_12 (by decide) (by decide) ?_
    refine lv_iload_n hx hb dX0_join_123 rfl (lv_at hl 1 rfl) ?_
    refine lv_iload_n hx hb dX0_join_124 rfl (lv_at hl 2 rfl) ?_
    refine lv_icmp_ne (tgt := 132) hx hb dX0_join_125 (by decide) (fun c_13 => ?_) (fun c_13 => ?_)
    · have hw := hw.1 c_13
      refine lv_iconst (v := 0) hx hb dX0_join_132 (by decide) ?_
      exact W.iret hx hb hr (mw_end hP hSt hTb hS ⟨_, rfl, hw⟩) hS.2.2 dX0_join_133
    · have hw := hw.2 c_13
      refine lv_iconst (v := 1) hx hb dX0_join_128 (by decide) ?_
      refine lv_goto (tgt := 133) hx hb dX0_join_129 (by decide) ?_
      exact W.iret hx hb hr (mw_end hP hSt hTb hS ⟨_, rfl, hw⟩) hS.2.2 dX0_join_133
  by_cases c_14 : a0 = 62
  · have hw := hw.2.2.2.2.2.2.2.1 c_14
    refine mw_lcase (tgt := 134) (off := 133) hx hb dX0_join_1 c_14 (by decide) (by decide) ?_
    refine lv_iload_n hx hb dX0_join_134 rfl (lv_at hl 1 rfl) ?_
    refine lv_iload_n hx hb dX0_join_135 rfl (lv_at hl 2 rfl) ?_
    refine lv_icmp_le (tgt := 143) hx hb dX0_join_136 (by decide) (fun c_15 => ?_) (fun c_15 => ?_)
    · have hw := hw.1 c_15
      refine lv_iconst (v := 0) hx hb dX0_join_143 (by decide) ?_
      exact W.iret hx hb hr (mw_end hP hSt hTb hS ⟨_, rfl, hw⟩) hS.2.2 dX0_join_144
    · have hw := hw.2 c_15
      refine lv_iconst (v := 1) hx hb dX0_join_139 (by decide) ?_
      refine lv_goto (tgt := 144) hx hb dX0_join_140 (by decide) ?_
      exact W.iret hx hb hr (mw_end hP hSt hTb hS ⟨_, rfl, hw⟩) hS.2.2 dX0_join_144
  by_cases c_16 : a0 = 124
  · have hw := hw.2.2.2.2.2.2.2.2.1 c_16
    refine mw_lcase (tgt := 84) (off := 83) hx hb dX0_join_1 c_16 (by decide) (by decide) ?_
    refine lv_iload_n hx hb dX0_join_84 rfl (lv_at hl 1 rfl) ?_
    refine lv_if_ne (tgt := 92) hx hb dX0_join_85 (by decide) (fun c_17 => ?_) (fun c_17 => ?_)
    · have hw := hw.1 c_17
      refine lv_iconst (v := 1) hx hb dX0_join_92 (by decide) ?_
      refine lv_goto (tgt := 97) hx hb dX0_join_93 (by decide) ?_
      exact W.iret hx hb hr (mw_end hP hSt hTb hS ⟨_, rfl, hw⟩) hS.2.2 dX0_join_97
    · have hw := hw.2 c_17
      refine lv_iload_n hx hb dX0_join_88 rfl (lv_at hl 2 rfl) ?_
      refine lv_if_eq (tgt := 96) hx hb dX0_join_89 (by decide) (fun c_18 => ?_) (fun c_18 => ?_)
      · have hw := hw.1 c_18
        refine lv_iconst (v := 0) hx hb dX0_join_96 (by decide) ?_
        exact W.iret hx hb hr (mw_end hP hSt hTb hS ⟨_, rfl, hw⟩) hS.2.2 dX0_join_97
      · have hw := hw.2 c_18
        refine lv_iconst (v := 1) hx hb dX0_join_92 (by decide) ?_
        refine lv_goto (tgt := 97) hx hb dX0_join_93 (by decide) ?_
        exact W.iret hx hb hr (mw_end hP hSt hTb hS ⟨_, rfl, hw⟩) hS.2.2 dX0_join_97
  have hw := hw.2.2.2.2.2.2.2.2.2 c_1 c_4 c_5 c_6 c_7 c_10 c_12 c_14 c_16
  refine mw_ldef (keys := [38, 42, 43, 45, 47, 60, 61, 62, 124]) (tgt := 169) hx hb dX0_join_1 (List.forall_mem_cons.mpr ⟨c_1, (List.forall_mem_cons.mpr ⟨c_4, (List.forall_mem_cons.mpr ⟨c_5, (List.forall_mem_cons.mpr ⟨c_6, (List.forall_mem_cons.mpr ⟨c_7, (List.forall_mem_cons.mpr ⟨c_10, (List.forall_mem_cons.mpr ⟨c_12, (List.forall_mem_cons.mpr ⟨c_14, (List.forall_mem_cons.mpr ⟨c_16, (fun _ h_ => absurd h_ List.not_mem_nil)⟩)⟩)⟩)⟩)⟩)⟩)⟩)⟩)⟩) (by decide) (by decide) (by decide) ?_
  refine lv_iload_n hx hb dX0_join_169 rfl (lv_at hl 2 rfl) ?_
  refine lv_if_ne (tgt := 177) hx hb dX0_join_170 (by decide) (fun c_19 => ?_) (fun c_19 => ?_)
  · have hw := hw.1 c_19
    refine lv_iload_n hx hb dX0_join_177 rfl (lv_at hl 1 rfl) ?_
    refine lv_iload_n hx hb dX0_join_178 rfl (lv_at hl 2 rfl) ?_
    obtain ⟨c_20, hw⟩ := hw
    refine lv_irem hx hb dX0_join_179 c_20 ?_
    exact W.iret hx hb hr (mw_end hP hSt hTb hS ⟨_, rfl, hw⟩) hS.2.2 dX0_join_180
  · have hw := hw.2 c_19
    refine lv_iconst (v := 0) hx hb dX0_join_173 (by decide) ?_
    refine lv_goto (tgt := 180) hx hb dX0_join_174 (by decide) ?_
    exact W.iret hx hb hr (mw_end hP hSt hTb hS ⟨_, rfl, hw⟩) hS.2.2 dX0_join_180
def b_X0_workOut_160 (h : Nat) (Q : Int32 → Mem → Prop) (K10 : Int32 → Mem → Prop) (v1 : Int32) (v2 : Int32) (v3 : Int32) (v4 : Int32) (M : Mem) : Prop :=
  ∀ x_1 : Int32, x_1 = v4 + 1 → K10 x_1 M
def b_X0_workOut_117 (h : Nat) (Q : Int32 → Mem → Prop) (K10 : Int32 → Mem → Prop) (v1 : Int32) (v2 : Int32) (v3 : Int32) (v4 : Int32) (s0 : Nat) (s1 : Int32) (M : Mem) : Prop :=
  wp_X3_append s0 s1 M (fun r_3 M_2 => b_X0_workOut_160 h Q K10 v1 v2 v3 v4 M_2)
def b_X0_workOut_84 (h : Nat) (Q : Int32 → Mem → Prop) (K10 : Int32 → Mem → Prop) (v1 : Int32) (v2 : Int32) (v3 : Int32) (v4 : Int32) (s0 : Nat) (s1 : Int32) (M : Mem) : Prop :=
  wp_X3_append s0 s1 M (fun r_5 M_4 => b_X0_workOut_160 h Q K10 v1 v2 v3 v4 M_4)
def B_X0_workOut_10 (h : Nat) (Q : Int32 → Mem → Prop) (v1 : Int32) (v2 : Int32) (v3 : Int32) (K10 : Int32 → Mem → Prop) (v4 : Int32) (M : Mem) : Prop :=
  ((M (h + 1) 1) ≤ v4 → wp_X3_takeLast (h + 3) M (fun r_8 M_7 => Q r_8 M_7)) ∧ (¬ (M (h + 1) 1) ≤ v4 → wp_X3_get (h + 1) v4 M (fun r_10 M_9 => (r_10 < 0 → (r_10 < (-3) → (¬ r_10 = (-33) → wp_X3_takeLast (h + 3) M_9 (fun r_15 M_14 => wp_X3_takeLast (h + 3) M_14 (fun r_17 M_16 => wp_X0_join (-r_10) r_17 r_15 M_16 (fun r_19 M_18 => wp_X3_append (h + 3) r_19 M_18 (fun r_21 M_20 => b_X0_workOut_160 h Q K10 v1 v2 v3 v4 M_20))))) ∧ (r_10 = (-33) → wp_X3_takeLast (h + 3) M_9 (fun r_23 M_22 => (¬ r_23 = 0 → b_X0_workOut_117 h Q K10 v1 v2 v3 v4 (h + 3) 0 M_22) ∧ (r_23 = 0 → b_X0_workOut_117 h Q K10 v1 v2 v3 v4 (h + 3) 1 M_22)))) ∧ (¬ r_10 < (-3) → (¬ r_10 = (-1) → (¬ r_10 = (-2) → b_X0_workOut_84 h Q K10 v1 v2 v3 v4 (h + 3) v3 M_9) ∧ (r_10 = (-2) → b_X0_workOut_84 h Q K10 v1 v2 v3 v4 (h + 3) v2 M_9)) ∧ (r_10 = (-1) → b_X0_workOut_84 h Q K10 v1 v2 v3 v4 (h + 3) v1 M_9))) ∧ (¬ r_10 < 0 → wp_X3_append (h + 3) r_10 M_9 (fun r_28 M_27 => b_X0_workOut_160 h Q K10 v1 v2 v3 v4 M_27))))
def l_X0_workOut_10 (h : Nat) (Q : Int32 → Mem → Prop) (v1 : Int32) (v2 : Int32) (v3 : Int32) : Nat → Int32 → Mem → Prop
  | 0 => fun _ _ => False
  | n + 1 => B_X0_workOut_10 h Q v1 v2 v3 (l_X0_workOut_10 h Q v1 v2 v3 n)
def wp_X0_workOut (h : Nat) (a1 : Int32) (a2 : Int32) (a3 : Int32) (M : Mem) (Q : Int32 → Mem → Prop) : Prop :=
  kdT h = 0 ∧ (wp_X3_clear (h + 3) M (fun M_29 => ∃ n, l_X0_workOut_10 h Q a1 a2 a3 n 0 M_29))
set_option maxHeartbeats 4000000 in
set_option maxRecDepth 100000 in
theorem so_X0_workOut (l : Launch) (G : Gm) (h : Nat) (a1 : Int32) (a2 : Int32) (a3 : Int32) (M : Mem) (Q : Int32 → Mem → Prop) (hw : wp_X0_workOut h a1 a2 a3 M Q) : Ct l G yX0_workOut cX0_workOut 8 (some .int) ({ frames := 1, cells := 0, slots := 0, locals := 22 } : Room) [.ref (G.1 + h), .int a1, .int a2, .int a3] M (Qi Q) := by
  unfold wp_X0_workOut at hw
  obtain ⟨kh, hw⟩ := hw
  refine ct_of (by decide) (Nat.le_of_ble_eq_true rfl) ?_
  intro p e s m below meth c E_ ls H hl hP hS
  obtain ⟨hx, hb, hml, hown, hts, ht, hr, hlocks, hSt, hTb⟩ := E_
  have hl : lv_has ls 8 [(0, .ref (G.1 + h)), (1, .int a1), (2, .int a2), (3, .int a3)] := hl
  have L_10 : ∀ (v1 : Int32) (v2 : Int32) (v3 : Int32), ∀ (n10 : Nat) (v4 : Int32) (M : Mem) (H : Heap) (locs : List Loc) (ls : Array Slot), l_X0_workOut_10 h Q v1 v2 v3 n10 v4 M → va_P G.2.1 clsA (wl G M) H → va_S (inW G) s.heap H locs → lv_has ls 8 [(0, .ref (G.1 + h)), (1, .int v1), (2, .int v2), (3, .int v3), (4, .int v4)] → W p l e ({ frames := 1, cells := 0, slots := 0, locals := 22 } : Room) s m ([.ref (G.1 + h), .int a1, .int a2, .int a3] : List Value).toArray below meth c H locs 0 0 (MQ below (Pq G (Qi Q)) ([.ref (G.1 + h), .int a1, .int a2, .int a3] : List Value).toArray s 0 0 (inW G)) (F0 m 10 ls []) := by
    intro v1 v2 v3  n10
    induction n10 with
    | zero => intro v4 M H locs ls  hw hP hS hl; exact False.elim hw
    | succ n10 ih10 =>
      have J_160 : ∀ (v4 : Int32) (M : Mem) (H : Heap) (locs : List Loc) (ls : Array Slot), b_X0_workOut_160 h Q (l_X0_workOut_10 h Q v1 v2 v3 n10) v1 v2 v3 v4 M → va_P G.2.1 clsA (wl G M) H → va_S (inW G) s.heap H locs → lv_has ls 8 [(0, .ref (G.1 + h)), (1, .int v1), (2, .int v2), (3, .int v3), (4, .int v4)] → W p l e ({ frames := 1, cells := 0, slots := 0, locals := 22 } : Room) s m ([.ref (G.1 + h), .int a1, .int a2, .int a3] : List Value).toArray below meth c H locs 0 0 (MQ below (Pq G (Qi Q)) ([.ref (G.1 + h), .int a1, .int a2, .int a3] : List Value).toArray s 0 0 (inW G)) (F0 m 160 ls []) := by
        intro v4 M H locs ls  hw hP hS hl
        unfold b_X0_workOut_160 at hw
        obtain ⟨x_1, ex_1⟩ : ∃ z : Int32, z = v4 + 1 := ⟨_, rfl⟩
        have hw := hw x_1 ex_1
        refine lv_iinc (v := x_1) (lv' := [(4, .int x_1), (0, .ref (G.1 + h)), (1, .int v1), (2, .int v2), (3, .int v3)]) hx hb dX0_workOut_160 hl (k := 4) rfl (by rw [ex_1]; rfl) (by decide) rfl (fun ls hl => ?_)
        refine lv_goto (tgt := 10) hx hb dX0_workOut_163 (by decide) ?_
        exact ih10 x_1 M _ _ _ hw hP hS (lv_sub hl [1, 2, 3, 4, 0] rfl)
      have J_117 : ∀ (v4 : Int32) (s0 : Nat) (s1 : Int32) (M : Mem) (H : Heap) (locs : List Loc) (ls : Array Slot), kdT s0 = 3 → b_X0_workOut_117 h Q (l_X0_workOut_10 h Q v1 v2 v3 n10) v1 v2 v3 v4 s0 s1 M → va_P G.2.1 clsA (wl G M) H → va_S (inW G) s.heap H locs → lv_has ls 8 [(0, .ref (G.1 + h)), (1, .int v1), (2, .int v2), (3, .int v3), (4, .int v4)] → W p l e ({ frames := 1, cells := 0, slots := 0, locals := 22 } : Room) s m ([.ref (G.1 + h), .int a1, .int a2, .int a3] : List Value).toArray below meth c H locs 0 0 (MQ below (Pq G (Qi Q)) ([.ref (G.1 + h), .int a1, .int a2, .int a3] : List Value).toArray s 0 0 (inW G)) (F0 m 117 ls [.int s1, .ref (G.1 + s0)]) := by
        intro v4 s0 s1 M H locs ls ks0 hw hP hS hl
        unfold b_X0_workOut_117 at hw
        refine mw_V (As := [.int s1]) (rest := []) (T := TX3) (N := 2) (n := 1) ⟨hx, hb, hml, hown, hts⟩ (so_X3_append l G s0 s1 M _ hw) wm_RX0_50 wi_yX3_append wv_yX3_append wn_RX3 wc_yX3_append (by decide) ⟨Nat.le_of_ble_eq_true rfl, Nat.le_of_ble_eq_true rfl⟩ ⟨rfl, rfl⟩ ks0 (by decide) (mk3 ks0) rfl hSt hTb hP hS rfl hl.1 rfl (Nat.le_of_ble_eq_true rfl) dX0_workOut_117 ⟨Nat.le_refl 0, Nat.le_refl 0⟩ (fun rr_ M_2 H locs hq hP hS => ?_)
        obtain ⟨r_3, rfl, hw⟩ := hq
        refine lv_pop hx hb dX0_workOut_120 rfl ?_
        refine lv_goto (tgt := 160) hx hb dX0_workOut_121 (by decide) ?_
        exact J_160 v4 M_2 _ _ _ hw hP hS (lv_sub hl [0, 1, 2, 3, 4] rfl)
      have J_84 : ∀ (v4 : Int32) (s0 : Nat) (s1 : Int32) (M : Mem) (H : Heap) (locs : List Loc) (ls : Array Slot), kdT s0 = 3 → b_X0_workOut_84 h Q (l_X0_workOut_10 h Q v1 v2 v3 n10) v1 v2 v3 v4 s0 s1 M → va_P G.2.1 clsA (wl G M) H → va_S (inW G) s.heap H locs → lv_has ls 8 [(0, .ref (G.1 + h)), (1, .int v1), (2, .int v2), (3, .int v3), (4, .int v4)] → W p l e ({ frames := 1, cells := 0, slots := 0, locals := 22 } : Room) s m ([.ref (G.1 + h), .int a1, .int a2, .int a3] : List Value).toArray below meth c H locs 0 0 (MQ below (Pq G (Qi Q)) ([.ref (G.1 + h), .int a1, .int a2, .int a3] : List Value).toArray s 0 0 (inW G)) (F0 m 84 ls [.int s1, .ref (G.1 + s0)]) := by
        intro v4 s0 s1 M H locs ls ks0 hw hP hS hl
        unfold b_X0_workOut_84 at hw
        refine mw_V (As := [.int s1]) (rest := []) (T := TX3) (N := 2) (n := 1) ⟨hx, hb, hml, hown, hts⟩ (so_X3_append l G s0 s1 M _ hw) wm_RX0_50 wi_yX3_append wv_yX3_append wn_RX3 wc_yX3_append (by decide) ⟨Nat.le_of_ble_eq_true rfl, Nat.le_of_ble_eq_true rfl⟩ ⟨rfl, rfl⟩ ks0 (by decide) (mk3 ks0) rfl hSt hTb hP hS rfl hl.1 rfl (Nat.le_of_ble_eq_true rfl) dX0_workOut_84 ⟨Nat.le_refl 0, Nat.le_refl 0⟩ (fun rr_ M_4 H locs hq hP hS => ?_)
        obtain ⟨r_5, rfl, hw⟩ := hq
        refine lv_pop hx hb dX0_workOut_87 rfl ?_
        refine lv_goto (tgt := 160) hx hb dX0_workOut_88 (by decide) ?_
        exact J_160 v4 M_4 _ _ _ hw hP hS (lv_sub hl [0, 1, 2, 3, 4] rfl)
      intro v4 M H locs ls  hw hP hS hl
      have hw : B_X0_workOut_10 h Q v1 v2 v3 (l_X0_workOut_10 h Q v1 v2 v3 n10) v4 M := hw
      unfold B_X0_workOut_10 at hw
      refine lv_iload hx hb dX0_workOut_10 (lv_at hl 4 rfl) ?_
      refine lv_aload_n hx hb dX0_workOut_12 rfl (lv_at hl 0 rfl) ?_
      refine mw_get (ci := 0) (v := .ref (G.1 + (h + 1))) (C := RX0) (T := TX0) (N := 3) hx hb ht inX0 hown hSt hP kh (by decide) (mk0 kh) rfl 1 (by decide) (ht _ wf_RX0_14) rfl rfl dX0_workOut_13 ?_
      refine mw_get (ci := 3) (v := .int (M (h + 1) 1)) (C := RX3) (T := TX3) (N := 2) hx hb ht inX3 hown hSt hP (ks0_1 kh) (by decide) (mk3 (ks0_1 kh)) rfl 1 (by decide) (ht _ wf_RX0_27) rfl rfl dX0_workOut_16 ?_
      refine lv_icmp_ge (tgt := 166) hx hb dX0_workOut_19 (by decide) (fun c_6 => ?_) (fun c_6 => ?_)
      · have hw := hw.1 c_6
        refine lv_aload_n hx hb dX0_workOut_166 rfl (lv_at hl 0 rfl) ?_
        refine mw_get (ci := 0) (v := .ref (G.1 + (h + 3))) (C := RX0) (T := TX0) (N := 3) hx hb ht inX0 hown hSt hP kh (by decide) (mk0 kh) rfl 2 (by decide) (ht _ wf_RX0_20) rfl rfl dX0_workOut_167 ?_
        refine mw_V (As := []) (rest := []) (T := TX3) (N := 2) (n := 0) ⟨hx, hb, hml, hown, hts⟩ (so_X3_takeLast l G (h + 3) M _ hw) wm_RX0_54 wi_yX3_takeLast wv_yX3_takeLast wn_RX3 wc_yX3_takeLast (by decide) ⟨Nat.le_of_ble_eq_true rfl, Nat.le_of_ble_eq_true rfl⟩ ⟨rfl, rfl⟩ (ks0_2 kh) (by decide) (mk3 (ks0_2 kh)) rfl hSt hTb hP hS rfl hl.1 rfl (Nat.le_of_ble_eq_true rfl) dX0_workOut_170 ⟨Nat.le_refl 0, Nat.le_refl 0⟩ (fun rr_ M_7 H locs hq hP hS => ?_)
        obtain ⟨r_8, rfl, hw⟩ := hq
        exact W.iret hx hb hr (mw_end hP hSt hTb hS ⟨_, rfl, hw⟩) hS.2.2 dX0_workOut_173
      · have hw := hw.2 c_6
        refine lv_aload_n hx hb dX0_workOut_22 rfl (lv_at hl 0 rfl) ?_
        refine mw_get (ci := 0) (v := .ref (G.1 + (h + 1))) (C := RX0) (T := TX0) (N := 3) hx hb ht inX0 hown hSt hP kh (by decide) (mk0 kh) rfl 1 (by decide) (ht _ wf_RX0_14) rfl rfl dX0_workOut_23 ?_
        refine lv_iload hx hb dX0_workOut_26 (lv_at hl 4 rfl) ?_
        refine mw_V (As := [.int v4]) (rest := []) (T := TX3) (N := 2) (n := 1) ⟨hx, hb, hml, hown, hts⟩ (so_X3_get l G (h + 1) v4 M _ hw) wm_RX0_46 wi_yX3_get wv_yX3_get wn_RX3 wc_yX3_get (by decide) ⟨Nat.le_of_ble_eq_true rfl, Nat.le_of_ble_eq_true rfl⟩ ⟨rfl, rfl⟩ (ks0_1 kh) (by decide) (mk3 (ks0_1 kh)) rfl hSt hTb hP hS rfl hl.1 rfl (Nat.le_of_ble_eq_true rfl) dX0_workOut_28 ⟨Nat.le_refl 0, Nat.le_refl 0⟩ (fun rr_ M_9 H locs hq hP hS => ?_)
        obtain ⟨r_10, rfl, hw⟩ := hq
        refine lv_istore (lv' := [(5, .int r_10), (0, .ref (G.1 + h)), (1, .int v1), (2, .int v2), (3, .int v3), (4, .int v4)]) hx hb dX0_workOut_31 hl (by decide) rfl (fun ls hl => ?_)
        refine lv_iload hx hb dX0_workOut_33 (lv_at hl 0 rfl) ?_
        refine lv_if_lt (tgt := 51) hx hb dX0_workOut_35 (by decide) (fun c_11 => ?_) (fun c_11 => ?_)
        · have hw := hw.1 c_11
          refine lv_iload hx hb dX0_workOut_51 (lv_at hl 0 rfl) ?_
          refine lv_bipush (v := (-3)) hx hb dX0_workOut_53 (by decide) ?_
          refine lv_icmp_lt (tgt := 91) hx hb dX0_workOut_55 (by decide) (fun c_12 => ?_) (fun c_12 => ?_)
          · have hw := hw.1 c_12
            refine lv_iload hx hb dX0_workOut_91 (lv_at hl 0 rfl) ?_
            refine lv_bipush (v := (-33)) hx hb dX0_workOut_93 (by decide) ?_
            refine lv_icmp_ne (tgt := 124) hx hb dX0_workOut_95 (by decide) (fun c_13 => ?_) (fun c_13 => ?_)
            · have hw := hw.1 c_13
              refine lv_aload_n hx hb dX0_workOut_124 rfl (lv_at hl 1 rfl) ?_
              refine mw_get (ci := 0) (v := .ref (G.1 + (h + 3))) (C := RX0) (T := TX0) (N := 3) hx hb ht inX0 hown hSt hP kh (by decide) (mk0 kh) rfl 2 (by decide) (ht _ wf_RX0_20) rfl rfl dX0_workOut_125 ?_
              refine mw_V (As := []) (rest := []) (T := TX3) (N := 2) (n := 0) ⟨hx, hb, hml, hown, hts⟩ (so_X3_takeLast l G (h + 3) M_9 _ hw) wm_RX0_54 wi_yX3_takeLast wv_yX3_takeLast wn_RX3 wc_yX3_takeLast (by decide) ⟨Nat.le_of_ble_eq_true rfl, Nat.le_of_ble_eq_true rfl⟩ ⟨rfl, rfl⟩ (ks0_2 kh) (by decide) (mk3 (ks0_2 kh)) rfl hSt hTb hP hS rfl hl.1 rfl (Nat.le_of_ble_eq_true rfl) dX0_workOut_128 ⟨Nat.le_refl 0, Nat.le_refl 0⟩ (fun rr_ M_14 H locs hq hP hS => ?_)
              obtain ⟨r_15, rfl, hw⟩ := hq
              refine lv_istore (lv' := [(6, .int r_15), (5, .int r_10), (0, .ref (G.1 + h)), (1, .int v1), (2, .int v2), (3, .int v3), (4, .int v4)]) hx hb dX0_workOut_131 hl (by decide) rfl (fun ls hl => ?_)
              refine lv_aload_n hx hb dX0_workOut_133 rfl (lv_at hl 2 rfl) ?_
              refine mw_get (ci := 0) (v := .ref (G.1 + (h + 3))) (C := RX0) (T := TX0) (N := 3) hx hb ht inX0 hown hSt hP kh (by decide) (mk0 kh) rfl 2 (by decide) (ht _ wf_RX0_20) rfl rfl dX0_workOut_134 ?_
              refine mw_V (As := []) (rest := []) (T := TX3) (N := 2) (n := 0) ⟨hx, hb, hml, hown, hts⟩ (so_X3_takeLast l G (h + 3) M_14 _ hw) wm_RX0_54 wi_yX3_takeLast wv_yX3_takeLast wn_RX3 wc_yX3_takeLast (by decide) ⟨Nat.le_of_ble_eq_true rfl, Nat.le_of_ble_eq_true rfl⟩ ⟨rfl, rfl⟩ (ks0_2 kh) (by decide) (mk3 (ks0_2 kh)) rfl hSt hTb hP hS rfl hl.1 rfl (Nat.le_of_ble_eq_true rfl) dX0_workOut_137 ⟨Nat.le_refl 0, Nat.le_refl 0⟩ (fun rr_ M_16 H locs hq hP hS => ?_)
              obtain ⟨r_17, rfl, hw⟩ := hq
              refine lv_istore (lv' := [(7, .int r_17), (6, .int r_15), (5, .int r_10), (0, .ref (G.1 + h)), (1, .int v1), (2, .int v2), (3, .int v3), (4, .int v4)]) hx hb dX0_workOut_140 hl (by decide) rfl (fun ls hl => ?_)
              refine lv_aload_n hx hb dX0_workOut_142 rfl (lv_at hl 3 rfl) ?_
              refine mw_get (ci := 0) (v := .ref (G.1 + (h + 3))) (C := RX0) (T := TX0) (N := 3) hx hb ht inX0 hown hSt hP kh (by decide) (mk0 kh) rfl 2 (by decide) (ht _ wf_RX0_20) rfl rfl dX0_workOut_143 ?_
              refine lv_iload hx hb dX0_workOut_146 (lv_at hl 2 rfl) ?_
              refine lv_ineg hx hb dX0_workOut_148 ?_
              refine lv_iload hx hb dX0_workOut_149 (lv_at hl 0 rfl) ?_
              refine lv_iload hx hb dX0_workOut_151 (lv_at hl 1 rfl) ?_
              refine mw_Sx (As := [.int (-r_10), .int r_17, .int r_15]) (rest := [.ref (G.1 + (h + 3))]) (n := 3) ⟨hx, hb, hml, hown, hts⟩ (so_X0_join l G (-r_10) r_17 r_15 M_16 _ hw) wm_RX0_58 wt_yX0_join wn_RX0 wc_yX0_join (by decide) ⟨Nat.le_of_ble_eq_true rfl, Nat.le_of_ble_eq_true rfl⟩ ⟨rfl, rfl⟩ hSt hTb hP hS rfl hl.1 rfl (Nat.le_of_ble_eq_true rfl) dX0_workOut_153 ⟨Nat.le_refl 0, Nat.le_refl 0⟩ (fun rr_ M_18 H locs hq hP hS => ?_)
              obtain ⟨r_19, rfl, hw⟩ := hq
              refine mw_V (As := [.int r_19]) (rest := []) (T := TX3) (N := 2) (n := 1) ⟨hx, hb, hml, hown, hts⟩ (so_X3_append l G (h + 3) r_19 M_18 _ hw) wm_RX0_50 wi_yX3_append wv_yX3_append wn_RX3 wc_yX3_append (by decide) ⟨Nat.le_of_ble_eq_true rfl, Nat.le_of_ble_eq_true rfl⟩ ⟨rfl, rfl⟩ (ks0_2 kh) (by decide) (mk3 (ks0_2 kh)) rfl hSt hTb hP hS rfl hl.1 rfl (Nat.le_of_ble_eq_true rfl) dX0_workOut_156 ⟨Nat.le_refl 0, Nat.le_refl 0⟩ (fun rr_ M_20 H locs hq hP hS => ?_)
              obtain ⟨r_21, rfl, hw⟩ := hq
              refine lv_pop hx hb dX0_workOut_159 rfl ?_
              exact J_160 v4 M_20 _ _ _ hw hP hS (lv_sub hl [3, 4, 5, 6, 7] rfl)
            · have hw := hw.2 c_13
              refine lv_aload_n hx hb dX0_workOut_98 rfl (lv_at hl 1 rfl) ?_
              refine mw_get (ci := 0) (v := .ref (G.1 + (h + 3))) (C := RX0) (T := TX0) (N := 3) hx hb ht inX0 hown hSt hP kh (by decide) (mk0 kh) rfl 2 (by decide) (ht _ wf_RX0_20) rfl rfl dX0_workOut_99 ?_
              refine lv_aload_n hx hb dX0_workOut_102 rfl (lv_at hl 1 rfl) ?_
              refine mw_get (ci := 0) (v := .ref (G.1 + (h + 3))) (C := RX0) (T := TX0) (N := 3) hx hb ht inX0 hown hSt hP kh (by decide) (mk0 kh) rfl 2 (by decide) (ht _ wf_RX0_20) rfl rfl dX0_workOut_103 ?_
              refine mw_V (As := []) (rest := [.ref (G.1 + (h + 3))]) (T := TX3) (N := 2) (n := 0) ⟨hx, hb, hml, hown, hts⟩ (so_X3_takeLast l G (h + 3) M_9 _ hw) wm_RX0_54 wi_yX3_takeLast wv_yX3_takeLast wn_RX3 wc_yX3_takeLast (by decide) ⟨Nat.le_of_ble_eq_true rfl, Nat.le_of_ble_eq_true rfl⟩ ⟨rfl, rfl⟩ (ks0_2 kh) (by decide) (mk3 (ks0_2 kh)) rfl hSt hTb hP hS rfl hl.1 rfl (Nat.le_of_ble_eq_true rfl) dX0_workOut_106 ⟨Nat.le_refl 0, Nat.le_refl 0⟩ (fun rr_ M_22 H locs hq hP hS => ?_)
              obtain ⟨r_23, rfl, hw⟩ := hq
              refine lv_if_ne (tgt := 116) hx hb dX0_workOut_109 (by decide) (fun c_24 => ?_) (fun c_24 => ?_)
              · have hw := hw.1 c_24
                refine lv_iconst (v := 0) hx hb dX0_workOut_116 (by decide) ?_
                exact J_117 v4 (h + 3) 0 M_22 _ _ _ (ks0_2 kh) hw hP hS (lv_sub hl [1, 2, 3, 4, 5] rfl)
              · have hw := hw.2 c_24
                refine lv_iconst (v := 1) hx hb dX0_workOut_112 (by decide) ?_
                refine lv_goto (tgt := 117) hx hb dX0_workOut_113 (by decide) ?_
                exact J_117 v4 (h + 3) 1 M_22 _ _ _ (ks0_2 kh) hw hP hS (lv_sub hl [1, 2, 3, 4, 5] rfl)
          · have hw := hw.2 c_12
            refine lv_aload_n hx hb dX0_workOut_58 rfl (lv_at hl 1 rfl) ?_
            refine mw_get (ci := 0) (v := .ref (G.1 + (h + 3))) (C := RX0) (T := TX0) (N := 3) hx hb ht inX0 hown hSt hP kh (by decide) (mk0 kh) rfl 2 (by decide) (ht _ wf_RX0_20) rfl rfl dX0_workOut_59 ?_
            refine lv_iload hx hb dX0_workOut_62 (lv_at hl 0 rfl) ?_
            refine lv_iconst (v := (-1)) hx hb dX0_workOut_64 (by decide) ?_
            refine lv_icmp_ne (tgt := 72) hx hb dX0_workOut_65 (by decide) (fun c_25 => ?_) (fun c_25 => ?_)
            · have hw := hw.1 c_25
              refine lv_iload hx hb dX0_workOut_72 (lv_at hl 0 rfl) ?_
              refine lv_bipush (v := (-2)) hx hb dX0_workOut_74 (by decide) ?_
              refine lv_icmp_ne (tgt := 83) hx hb dX0_workOut_76 (by decide) (fun c_26 => ?_) (fun c_26 => ?_)
              · have hw := hw.1 c_26
                refine lv_iload_n hx hb dX0_workOut_83 rfl (lv_at hl 4 rfl) ?_
                exact J_84 v4 (h + 3) v3 M_9 _ _ _ (ks0_2 kh) hw hP hS (lv_sub hl [1, 2, 3, 4, 5] rfl)
              · have hw := hw.2 c_26
                refine lv_iload_n hx hb dX0_workOut_79 rfl (lv_at hl 3 rfl) ?_
                refine lv_goto (tgt := 84) hx hb dX0_workOut_80 (by decide) ?_
                exact J_84 v4 (h + 3) v2 M_9 _ _ _ (ks0_2 kh) hw hP hS (lv_sub hl [1, 2, 3, 4, 5] rfl)
            · have hw := hw.2 c_25
              refine lv_iload_n hx hb dX0_workOut_68 rfl (lv_at hl 2 rfl) ?_
              refine lv_goto (tgt := 84) hx hb dX0_workOut_69 (by decide) ?_
              exact J_84 v4 (h + 3) v1 M_9 _ _ _ (ks0_2 kh) hw hP hS (lv_sub hl [1, 2, 3, 4, 5] rfl)
        · have hw := hw.2 c_11
          refine lv_aload_n hx hb dX0_workOut_38 rfl (lv_at hl 1 rfl) ?_
          refine mw_get (ci := 0) (v := .ref (G.1 + (h + 3))) (C := RX0) (T := TX0) (N := 3) hx hb ht inX0 hown hSt hP kh (by decide) (mk0 kh) rfl 2 (by decide) (ht _ wf_RX0_20) rfl rfl dX0_workOut_39 ?_
          refine lv_iload hx hb dX0_workOut_42 (lv_at hl 0 rfl) ?_
          refine mw_V (As := [.int r_10]) (rest := []) (T := TX3) (N := 2) (n := 1) ⟨hx, hb, hml, hown, hts⟩ (so_X3_append l G (h + 3) r_10 M_9 _ hw) wm_RX0_50 wi_yX3_append wv_yX3_append wn_RX3 wc_yX3_append (by decide) ⟨Nat.le_of_ble_eq_true rfl, Nat.le_of_ble_eq_true rfl⟩ ⟨rfl, rfl⟩ (ks0_2 kh) (by decide) (mk3 (ks0_2 kh)) rfl hSt hTb hP hS rfl hl.1 rfl (Nat.le_of_ble_eq_true rfl) dX0_workOut_44 ⟨Nat.le_refl 0, Nat.le_refl 0⟩ (fun rr_ M_27 H locs hq hP hS => ?_)
          obtain ⟨r_28, rfl, hw⟩ := hq
          refine lv_pop hx hb dX0_workOut_47 rfl ?_
          refine lv_goto (tgt := 160) hx hb dX0_workOut_48 (by decide) ?_
          exact J_160 v4 M_27 _ _ _ hw hP hS (lv_sub hl [1, 2, 3, 4, 5] rfl)
  refine lv_aload_n hx hb dX0_workOut_0 rfl (lv_at hl 0 rfl) ?_
  refine mw_get (ci := 0) (v := .ref (G.1 + (h + 3))) (C := RX0) (T := TX0) (N := 3) hx hb ht inX0 hown hSt hP kh (by decide) (mk0 kh) rfl 2 (by decide) (ht _ wf_RX0_20) rfl rfl dX0_workOut_1 ?_
  refine mw_V (As := []) (rest := []) (T := TX3) (N := 2) (n := 0) ⟨hx, hb, hml, hown, hts⟩ (so_X3_clear l G (h + 3) M _ hw) wm_RX0_43 wi_yX3_clear wv_yX3_clear wn_RX3 wc_yX3_clear (by decide) ⟨Nat.le_of_ble_eq_true rfl, Nat.le_of_ble_eq_true rfl⟩ ⟨rfl, rfl⟩ (ks0_2 kh) (by decide) (mk3 (ks0_2 kh)) rfl hSt hTb hP hS rfl hl.1 rfl (Nat.le_of_ble_eq_true rfl) dX0_workOut_4 ⟨Nat.le_refl 0, Nat.le_refl 0⟩ (fun rr_ M_29 H locs hq hP hS => ?_)
  obtain ⟨rfl, hw⟩ := hq
  refine lv_iconst (v := 0) hx hb dX0_workOut_7 (by decide) ?_
  refine lv_istore (lv' := [(4, .int 0), (0, .ref (G.1 + h)), (1, .int a1), (2, .int a2), (3, .int a3)]) hx hb dX0_workOut_8 hl (by decide) rfl (fun ls hl => ?_)
  obtain ⟨n_, hw⟩ := hw
  exact L_10 a1 a2 a3 n_ 0 M_29 _ _ _ hw hP hS (lv_sub hl [1, 2, 3, 4, 0] rfl)
def wp_X0_gives (h : Nat) (a1 : Int32) (a2 : Int32) (a3 : Int32) (M : Mem) (Q : Int32 → Mem → Prop) : Prop :=
  kdT h = 0 ∧ ((¬ (M (h + 1) 1) = 0 → wp_X0_workOut h a1 a2 a3 M (fun r_3 M_2 => Q (imx (0 : Int32) (imn (M h 0) r_3)) M_2)) ∧ ((M (h + 1) 1) = 0 → Q 1 M))
set_option maxHeartbeats 4000000 in
set_option maxRecDepth 100000 in
theorem so_X0_gives (l : Launch) (G : Gm) (h : Nat) (a1 : Int32) (a2 : Int32) (a3 : Int32) (M : Mem) (Q : Int32 → Mem → Prop) (hw : wp_X0_gives h a1 a2 a3 M Q) : Ct l G yX0_gives cX0_gives 4 (some .int) ({ frames := 2, cells := 0, slots := 0, locals := 60 } : Room) [.ref (G.1 + h), .int a1, .int a2, .int a3] M (Qi Q) := by
  unfold wp_X0_gives at hw
  obtain ⟨kh, hw⟩ := hw
  refine ct_of (by decide) (Nat.le_of_ble_eq_true rfl) ?_
  intro p e s m below meth c E_ ls H hl hP hS
  obtain ⟨hx, hb, hml, hown, hts, ht, hr, hlocks, hSt, hTb⟩ := E_
  have hl : lv_has ls 4 [(0, .ref (G.1 + h)), (1, .int a1), (2, .int a2), (3, .int a3)] := hl
  refine lv_aload_n hx hb dX0_gives_0 rfl (lv_at hl 0 rfl) ?_
  refine mw_get (ci := 0) (v := .ref (G.1 + (h + 1))) (C := RX0) (T := TX0) (N := 3) hx hb ht inX0 hown hSt hP kh (by decide) (mk0 kh) rfl 1 (by decide) (ht _ wf_RX0_14) rfl rfl dX0_gives_1 ?_
  refine mw_get (ci := 3) (v := .int (M (h + 1) 1)) (C := RX3) (T := TX3) (N := 2) hx hb ht inX3 hown hSt hP (ks0_1 kh) (by decide) (mk3 (ks0_1 kh)) rfl 1 (by decide) (ht _ wf_RX0_27) rfl rfl dX0_gives_4 ?_
  refine lv_if_ne (tgt := 12) hx hb dX0_gives_7 (by decide) (fun c_1 => ?_) (fun c_1 => ?_)
  · have hw := hw.1 c_1
    refine lv_iconst (v := 0) hx hb dX0_gives_12 (by decide) ?_
    refine lv_aload_n hx hb dX0_gives_13 rfl (lv_at hl 0 rfl) ?_
    refine mw_get (ci := 0) (v := .int (M h 0)) (C := RX0) (T := TX0) (N := 3) hx hb ht inX0 hown hSt hP kh (by decide) (mk0 kh) rfl 0 (by decide) (ht _ wf_RX0_23) rfl rfl dX0_gives_14 ?_
    refine lv_aload_n hx hb dX0_gives_17 rfl (lv_at hl 0 rfl) ?_
    refine lv_iload_n hx hb dX0_gives_18 rfl (lv_at hl 1 rfl) ?_
    refine lv_iload_n hx hb dX0_gives_19 rfl (lv_at hl 2 rfl) ?_
    refine lv_iload_n hx hb dX0_gives_20 rfl (lv_at hl 3 rfl) ?_
    refine mw_V (As := [.int a1, .int a2, .int a3]) (rest := [.int (M h 0), .int 0]) (T := TX0) (N := 3) (n := 3) ⟨hx, hb, hml, hown, hts⟩ (so_X0_workOut l G h a1 a2 a3 M _ hw) wm_RX0_30 wi_yX0_workOut wv_yX0_workOut wn_RX0 wc_yX0_workOut (by decide) ⟨Nat.le_of_ble_eq_true rfl, Nat.le_of_ble_eq_true rfl⟩ ⟨rfl, rfl⟩ kh (by decide) (mk0 kh) rfl hSt hTb hP hS rfl hl.1 rfl (Nat.le_of_ble_eq_true rfl) dX0_gives_21 ⟨Nat.le_refl 0, Nat.le_refl 0⟩ (fun rr_ M_2 H locs hq hP hS => ?_)
    obtain ⟨r_3, rfl, hw⟩ := hq
    refine va_mmin (rest := [.int 0]) hx hb (hml.trans hl.1.symm) hown (ht _ wm_RX0_34) (ht _ wt_yJ9_min_7cf53) (ht _ wn_RJ9) (ht _ wc_yJ9_min_7cf53) (Nat.le_of_ble_eq_true rfl) (Nat.le_of_ble_eq_true rfl) (Nat.zero_le _) (Nat.zero_le _) dX0_gives_24 ?_
    refine va_mmax (rest := []) hx hb (hml.trans hl.1.symm) hown (ht _ wm_RX0_40) (ht _ wt_yJ9_max_7cf53) (ht _ wn_RJ9) (ht _ wc_yJ9_max_7cf53) (Nat.le_of_ble_eq_true rfl) (Nat.le_of_ble_eq_true rfl) (Nat.zero_le _) (Nat.zero_le _) dX0_gives_27 ?_
    exact W.iret hx hb hr (mw_end hP hSt hTb hS ⟨_, rfl, hw⟩) hS.2.2 dX0_gives_30
  · have hw := hw.2 c_1
    refine lv_iconst (v := 1) hx hb dX0_gives_10 (by decide) ?_
    exact W.iret hx hb hr (mw_end hP hSt hTb hS ⟨_, rfl, hw⟩) hS.2.2 dX0_gives_11
def wp_X2_levelOf (a0 : Int32) (M : Mem) (Q : Int32 → Mem → Prop) : Prop :=
  (a0 = 37 → Q 4 M) ∧ (a0 = 38 → Q 1 M) ∧ (a0 = 42 → Q 4 M) ∧ (a0 = 43 → Q 3 M) ∧ (a0 = 45 → Q 3 M) ∧ (a0 = 47 → Q 4 M) ∧ (a0 = 60 → Q 2 M) ∧ (a0 = 61 → Q 2 M) ∧ (a0 = 62 → Q 2 M) ∧ (a0 = 124 → Q 0 M) ∧ (¬ a0 = 37 → ¬ a0 = 38 → ¬ a0 = 42 → ¬ a0 = 43 → ¬ a0 = 45 → ¬ a0 = 47 → ¬ a0 = 60 → ¬ a0 = 61 → ¬ a0 = 62 → ¬ a0 = 124 → Q (-1) M)
set_option maxHeartbeats 4000000 in
set_option maxRecDepth 100000 in
theorem so_X2_levelOf (l : Launch) (G : Gm) (a0 : Int32) (M : Mem) (Q : Int32 → Mem → Prop) (hw : wp_X2_levelOf a0 M Q) : Ct l G yX2_levelOf cX2_levelOf 1 (some .int) ({ frames := 0, cells := 0, slots := 0, locals := 0 } : Room) [.int a0] M (Qi Q) := by
  unfold wp_X2_levelOf at hw
  refine ct_of (by decide) (Nat.le_of_ble_eq_true rfl) ?_
  intro p e s m below meth c E_ ls H hl hP hS
  obtain ⟨hx, hb, hml, hown, hts, ht, hr, hlocks, hSt, hTb⟩ := E_
  have hl : lv_has ls 1 [(0, .int a0)] := hl
  refine lv_iload_n hx hb dX2_levelOf_0 rfl (lv_at hl 0 rfl) ?_
  by_cases c_1 : a0 = 37
  · have hw := hw.1 c_1
    refine mw_lcase (tgt := 100) (off := 99) hx hb dX2_levelOf_1 c_1 (by decide) (by decide) ?_
    refine lv_iconst (v := 4) hx hb dX2_levelOf_100 (by decide) ?_
    exact W.iret hx hb hr (mw_end hP hSt hTb hS ⟨_, rfl, hw⟩) hS.2.2 dX2_levelOf_101
  by_cases c_2 : a0 = 38
  · have hw := hw.2.1 c_2
    refine mw_lcase (tgt := 94) (off := 93) hx hb dX2_levelOf_1 c_2 (by decide) (by decide) ?_
    refine lv_iconst (v := 1) hx hb dX2_levelOf_94 (by decide) ?_
    exact W.iret hx hb hr (mw_end hP hSt hTb hS ⟨_, rfl, hw⟩) hS.2.2 dX2_levelOf_95
  by_cases c_3 : a0 = 42
  · have hw := hw.2.2.1 c_3
    refine mw_lcase (tgt := 100) (off := 99) hx hb dX2_levelOf_1 c_3 (by decide) (by decide) ?_
    refine lv_iconst (v := 4) hx hb dX2_levelOf_100 (by decide) ?_
    exact W.iret hx hb hr (mw_end hP hSt hTb hS ⟨_, rfl, hw⟩) hS.2.2 dX2_levelOf_101
  by_cases c_4 : a0 = 43
  · have hw := hw.2.2.2.1 c_4
    refine mw_lcase (tgt := 98) (off := 97) hx hb dX2_levelOf_1 c_4 (by decide) (by decide) ?_
    refine lv_iconst (v := 3) hx hb dX2_levelOf_98 (by decide) ?_
    exact W.iret hx hb hr (mw_end hP hSt hTb hS ⟨_, rfl, hw⟩) hS.2.2 dX2_levelOf_99
  by_cases c_5 : a0 = 45
  · have hw := hw.2.2.2.2.1 c_5
    refine mw_lcase (tgt := 98) (off := 97) hx hb dX2_levelOf_1 c_5 (by decide) (by decide) ?_
    refine lv_iconst (v := 3) hx hb dX2_levelOf_98 (by decide) ?_
    exact W.iret hx hb hr (mw_end hP hSt hTb hS ⟨_, rfl, hw⟩) hS.2.2 dX2_levelOf_99
  by_cases c_6 : a0 = 47
  · have hw := hw.2.2.2.2.2.1 c_6
    refine mw_lcase (tgt := 100) (off := 99) hx hb dX2_levelOf_1 c_6 (by decide) (by decide) ?_
    refine lv_iconst (v := 4) hx hb dX2_levelOf_100 (by decide) ?_
    exact W.iret hx hb hr (mw_end hP hSt hTb hS ⟨_, rfl, hw⟩) hS.2.2 dX2_levelOf_101
  by_cases c_7 : a0 = 60
  · have hw := hw.2.2.2.2.2.2.1 c_7
    refine mw_lcase (tgt := 96) (off := 95) hx hb dX2_levelOf_1 c_7 (by decide) (by decide) ?_
    refine lv_iconst (v := 2) hx hb dX2_levelOf_96 (by decide) ?_
    exact W.iret hx hb hr (mw_end hP hSt hTb hS ⟨_, rfl, hw⟩) hS.2.2 dX2_levelOf_97
  by_cases c_8 : a0 = 61
  · have hw := hw.2.2.2.2.2.2.2.1 c_8
    refine mw_lcase (tgt := 96) (off := 95) hx hb dX2_levelOf_1 c_8 (by decide) (by decide) ?_
    refine lv_iconst (v := 2) hx hb dX2_levelOf_96 (by decide) ?_
    exact W.iret hx hb hr (mw_end hP hSt hTb hS ⟨_, rfl, hw⟩) hS.2.2 dX2_levelOf_97
  by_cases c_9 : a0 = 62
  · have hw := hw.2.2.2.2.2.2.2.2.1 c_9
    refine mw_lcase (tgt := 96) (off := 95) hx hb dX2_levelOf_1 c_9 (by decide) (by decide) ?_
    refine lv_iconst (v := 2) hx hb dX2_levelOf_96 (by decide) ?_
    exact W.iret hx hb hr (mw_end hP hSt hTb hS ⟨_, rfl, hw⟩) hS.2.2 dX2_levelOf_97
  by_cases c_10 : a0 = 124
  · have hw := hw.2.2.2.2.2.2.2.2.2.1 c_10
    refine mw_lcase (tgt := 92) (off := 91) hx hb dX2_levelOf_1 c_10 (by decide) (by decide) ?_
    refine lv_iconst (v := 0) hx hb dX2_levelOf_92 (by decide) ?_
    exact W.iret hx hb hr (mw_end hP hSt hTb hS ⟨_, rfl, hw⟩) hS.2.2 dX2_levelOf_93
  have hw := hw.2.2.2.2.2.2.2.2.2.2 c_1 c_2 c_3 c_4 c_5 c_6 c_7 c_8 c_9 c_10
  refine mw_ldef (keys := [37, 38, 42, 43, 45, 47, 60, 61, 62, 124]) (tgt := 102) hx hb dX2_levelOf_1 (List.forall_mem_cons.mpr ⟨c_1, (List.forall_mem_cons.mpr ⟨c_2, (List.forall_mem_cons.mpr ⟨c_3, (List.forall_mem_cons.mpr ⟨c_4, (List.forall_mem_cons.mpr ⟨c_5, (List.forall_mem_cons.mpr ⟨c_6, (List.forall_mem_cons.mpr ⟨c_7, (List.forall_mem_cons.mpr ⟨c_8, (List.forall_mem_cons.mpr ⟨c_9, (List.forall_mem_cons.mpr ⟨c_10, (fun _ h_ => absurd h_ List.not_mem_nil)⟩)⟩)⟩)⟩)⟩)⟩)⟩)⟩)⟩)⟩) (by decide) (by decide) (by decide) ?_
  refine lv_iconst (v := (-1)) hx hb dX2_levelOf_102 (by decide) ?_
  exact W.iret hx hb hr (mw_end hP hSt hTb hS ⟨_, rfl, hw⟩) hS.2.2 dX2_levelOf_103
def wp_X2_next (h : Nat) (M : Mem) (Q : Int32 → Mem → Prop) : Prop :=
  kdT h = 2 ∧ (wp_X3_holds (h + 1) (M h 3) M (fun r_2 M_1 => (r_2 = 0 → Q (-1) M_1) ∧ (¬ r_2 = 0 → wp_X3_get (h + 1) (M_1 h 3) M_1 (fun r_5 M_4 => Q r_5 M_4))))
set_option maxHeartbeats 4000000 in
set_option maxRecDepth 100000 in
theorem so_X2_next (l : Launch) (G : Gm) (h : Nat) (M : Mem) (Q : Int32 → Mem → Prop) (hw : wp_X2_next h M Q) : Ct l G yX2_next cX2_next 1 (some .int) ({ frames := 1, cells := 0, slots := 0, locals := 21 } : Room) [.ref (G.1 + h)] M (Qi Q) := by
  unfold wp_X2_next at hw
  obtain ⟨kh, hw⟩ := hw
  refine ct_of (by decide) (Nat.le_of_ble_eq_true rfl) ?_
  intro p e s m below meth c E_ ls H hl hP hS
  obtain ⟨hx, hb, hml, hown, hts, ht, hr, hlocks, hSt, hTb⟩ := E_
  have hl : lv_has ls 1 [(0, .ref (G.1 + h))] := hl
  refine lv_aload_n hx hb dX2_next_0 rfl (lv_at hl 0 rfl) ?_
  refine mw_get (ci := 2) (v := .ref (G.1 + (h + 1))) (C := RX2) (T := TX2) (N := 4) hx hb ht inX2 hown hSt hP kh (by decide) (mk2 kh) rfl 0 (by decide) (ht _ wf_RX2_14) rfl rfl dX2_next_1 ?_
  refine lv_aload_n hx hb dX2_next_4 rfl (lv_at hl 0 rfl) ?_
  refine mw_get (ci := 2) (v := .int (M h 3)) (C := RX2) (T := TX2) (N := 4) hx hb ht inX2 hown hSt hP kh (by decide) (mk2 kh) rfl 3 (by decide) (ht _ wf_RX2_31) rfl rfl dX2_next_5 ?_
  refine mw_V (As := [.int (M h 3)]) (rest := []) (T := TX3) (N := 2) (n := 1) ⟨hx, hb, hml, hown, hts⟩ (so_X3_holds l G (h + 1) (M h 3) M _ hw) wm_RX2_74 wi_yX3_holds wv_yX3_holds wn_RX3 wc_yX3_holds (by decide) ⟨Nat.le_of_ble_eq_true rfl, Nat.le_of_ble_eq_true rfl⟩ ⟨rfl, rfl⟩ (ks2_0 kh) (by decide) (mk3 (ks2_0 kh)) rfl hSt hTb hP hS rfl hl.1 rfl (Nat.le_of_ble_eq_true rfl) dX2_next_8 ⟨Nat.le_refl 0, Nat.le_refl 0⟩ (fun rr_ M_1 H locs hq hP hS => ?_)
  obtain ⟨r_2, rfl, hw⟩ := hq
  refine lv_if_eq (tgt := 28) hx hb dX2_next_11 (by decide) (fun c_3 => ?_) (fun c_3 => ?_)
  · have hw := hw.1 c_3
    refine lv_iconst (v := (-1)) hx hb dX2_next_28 (by decide) ?_
    exact W.iret hx hb hr (mw_end hP hSt hTb hS ⟨_, rfl, hw⟩) hS.2.2 dX2_next_29
  · have hw := hw.2 c_3
    refine lv_aload_n hx hb dX2_next_14 rfl (lv_at hl 0 rfl) ?_
    refine mw_get (ci := 2) (v := .ref (G.1 + (h + 1))) (C := RX2) (T := TX2) (N := 4) hx hb ht inX2 hown hSt hP kh (by decide) (mk2 kh) rfl 0 (by decide) (ht _ wf_RX2_14) rfl rfl dX2_next_15 ?_
    refine lv_aload_n hx hb dX2_next_18 rfl (lv_at hl 0 rfl) ?_
    refine mw_get (ci := 2) (v := .int (M_1 h 3)) (C := RX2) (T := TX2) (N := 4) hx hb ht inX2 hown hSt hP kh (by decide) (mk2 kh) rfl 3 (by decide) (ht _ wf_RX2_31) rfl rfl dX2_next_19 ?_
    refine mw_V (As := [.int (M_1 h 3)]) (rest := []) (T := TX3) (N := 2) (n := 1) ⟨hx, hb, hml, hown, hts⟩ (so_X3_get l G (h + 1) (M_1 h 3) M_1 _ hw) wm_RX2_77 wi_yX3_get wv_yX3_get wn_RX3 wc_yX3_get (by decide) ⟨Nat.le_of_ble_eq_true rfl, Nat.le_of_ble_eq_true rfl⟩ ⟨rfl, rfl⟩ (ks2_0 kh) (by decide) (mk3 (ks2_0 kh)) rfl hSt hTb hP hS rfl hl.1 rfl (Nat.le_of_ble_eq_true rfl) dX2_next_22 ⟨Nat.le_refl 0, Nat.le_refl 0⟩ (fun rr_ M_4 H locs hq hP hS => ?_)
    obtain ⟨r_5, rfl, hw⟩ := hq
    refine lv_goto (tgt := 29) hx hb dX2_next_25 (by decide) ?_
    exact W.iret hx hb hr (mw_end hP hSt hTb hS ⟨_, rfl, hw⟩) hS.2.2 dX2_next_29
def wp_X2_isDigit (a0 : Int32) (M : Mem) (Q : Int32 → Mem → Prop) : Prop :=
  (a0 < 48 → Q 0 M) ∧ (¬ a0 < 48 → (57 < a0 → Q 0 M) ∧ (¬ 57 < a0 → Q 1 M))
set_option maxHeartbeats 4000000 in
set_option maxRecDepth 100000 in
theorem so_X2_isDigit (l : Launch) (G : Gm) (a0 : Int32) (M : Mem) (Q : Int32 → Mem → Prop) (hw : wp_X2_isDigit a0 M Q) : Ct l G yX2_isDigit cX2_isDigit 1 (some .boolean) ({ frames := 0, cells := 0, slots := 0, locals := 0 } : Room) [.int a0] M (Qi Q) := by
  unfold wp_X2_isDigit at hw
  refine ct_of (by decide) (Nat.le_of_ble_eq_true rfl) ?_
  intro p e s m below meth c E_ ls H hl hP hS
  obtain ⟨hx, hb, hml, hown, hts, ht, hr, hlocks, hSt, hTb⟩ := E_
  have hl : lv_has ls 1 [(0, .int a0)] := hl
  refine lv_iload_n hx hb dX2_isDigit_0 rfl (lv_at hl 0 rfl) ?_
  refine lv_bipush (v := 48) hx hb dX2_isDigit_1 (by decide) ?_
  refine lv_icmp_lt (tgt := 16) hx hb dX2_isDigit_3 (by decide) (fun c_1 => ?_) (fun c_1 => ?_)
  · have hw := hw.1 c_1
    refine lv_iconst (v := 0) hx hb dX2_isDigit_16 (by decide) ?_
    exact W.zret (v := 0) hx hb hr (by decide) (mw_end hP hSt hTb hS ⟨_, rfl, hw⟩) hS.2.2 dX2_isDigit_17
  · have hw := hw.2 c_1
    refine lv_iload_n hx hb dX2_isDigit_6 rfl (lv_at hl 0 rfl) ?_
    refine lv_bipush (v := 57) hx hb dX2_isDigit_7 (by decide) ?_
    refine lv_icmp_gt (tgt := 16) hx hb dX2_isDigit_9 (by decide) (fun c_2 => ?_) (fun c_2 => ?_)
    · have hw := hw.1 c_2
      refine lv_iconst (v := 0) hx hb dX2_isDigit_16 (by decide) ?_
      exact W.zret (v := 0) hx hb hr (by decide) (mw_end hP hSt hTb hS ⟨_, rfl, hw⟩) hS.2.2 dX2_isDigit_17
    · have hw := hw.2 c_2
      refine lv_iconst (v := 1) hx hb dX2_isDigit_12 (by decide) ?_
      refine lv_goto (tgt := 17) hx hb dX2_isDigit_13 (by decide) ?_
      exact W.zret (v := 1) hx hb hr (by decide) (mw_end hP hSt hTb hS ⟨_, rfl, hw⟩) hS.2.2 dX2_isDigit_17
def b_X2_nameOf_39 (h : Nat) (Q : Int32 → Mem → Prop) (K2 : Int32 → Mem → Prop) (v1 : Int32) (v2 : Int32) (M : Mem) : Prop :=
  ∀ x_1 : Int32, x_1 = v2 + 1 → K2 x_1 M
def B_X2_nameOf_2 (h : Nat) (Q : Int32 → Mem → Prop) (v1 : Int32) (K2 : Int32 → Mem → Prop) (v2 : Int32) (M : Mem) : Prop :=
  (3 ≤ v2 → Q (-1) M) ∧ (¬ 3 ≤ v2 → ∀ x_3, x_3 = ((M h 2) * 3) + v2 → (x_3 < 0 → b_X2_nameOf_39 h Q K2 v1 v2 M) ∧ (¬ x_3 < 0 → ((nI 6) ≤ x_3 → b_X2_nameOf_39 h Q K2 v1 v2 M) ∧ (¬ (nI 6) ≤ x_3 → vp_in x_3 6 ∧ ((¬ (NA x_3.toNatClampNeg) = v1 → b_X2_nameOf_39 h Q K2 v1 v2 M) ∧ ((NA x_3.toNatClampNeg) = v1 → Q v2 M)))))
def l_X2_nameOf_2 (h : Nat) (Q : Int32 → Mem → Prop) (v1 : Int32) : Nat → Int32 → Mem → Prop
  | 0 => fun _ _ => False
  | n + 1 => B_X2_nameOf_2 h Q v1 (l_X2_nameOf_2 h Q v1 n)
def wp_X2_nameOf (h : Nat) (a1 : Int32) (M : Mem) (Q : Int32 → Mem → Prop) : Prop :=
  kdT h = 2 ∧ (∃ n, l_X2_nameOf_2 h Q a1 n 0 M)
set_option maxHeartbeats 4000000 in
set_option maxRecDepth 100000 in
theorem so_X2_nameOf (l : Launch) (G : Gm) (h : Nat) (a1 : Int32) (M : Mem) (Q : Int32 → Mem → Prop) (hw : wp_X2_nameOf h a1 M Q) : Ct l G yX2_nameOf cX2_nameOf 4 (some .int) ({ frames := 0, cells := 0, slots := 0, locals := 0 } : Room) [.ref (G.1 + h), .int a1] M (Qi Q) := by
  unfold wp_X2_nameOf at hw
  obtain ⟨kh, hw⟩ := hw
  refine ct_of (by decide) (Nat.le_of_ble_eq_true rfl) ?_
  intro p e s m below meth c E_ ls H hl hP hS
  obtain ⟨hx, hb, hml, hown, hts, ht, hr, hlocks, hSt, hTb⟩ := E_
  have hl : lv_has ls 4 [(0, .ref (G.1 + h)), (1, .int a1)] := hl
  have L_2 : ∀ (v1 : Int32), ∀ (n2 : Nat) (v2 : Int32) (M : Mem) (H : Heap) (locs : List Loc) (ls : Array Slot), l_X2_nameOf_2 h Q v1 n2 v2 M → va_P G.2.1 clsA (wl G M) H → va_S (inW G) s.heap H locs → lv_has ls 4 [(0, .ref (G.1 + h)), (1, .int v1), (2, .int v2)] → W p l e ({ frames := 0, cells := 0, slots := 0, locals := 0 } : Room) s m ([.ref (G.1 + h), .int a1] : List Value).toArray below meth c H locs 0 0 (MQ below (Pq G (Qi Q)) ([.ref (G.1 + h), .int a1] : List Value).toArray s 0 0 (inW G)) (F0 m 2 ls []) := by
    intro v1  n2
    induction n2 with
    | zero => intro v2 M H locs ls  hw hP hS hl; exact False.elim hw
    | succ n2 ih2 =>
      have J_39 : ∀ (v2 : Int32) (M : Mem) (H : Heap) (locs : List Loc) (ls : Array Slot), b_X2_nameOf_39 h Q (l_X2_nameOf_2 h Q v1 n2) v1 v2 M → va_P G.2.1 clsA (wl G M) H → va_S (inW G) s.heap H locs → lv_has ls 4 [(0, .ref (G.1 + h)), (1, .int v1), (2, .int v2)] → W p l e ({ frames := 0, cells := 0, slots := 0, locals := 0 } : Room) s m ([.ref (G.1 + h), .int a1] : List Value).toArray below meth c H locs 0 0 (MQ below (Pq G (Qi Q)) ([.ref (G.1 + h), .int a1] : List Value).toArray s 0 0 (inW G)) (F0 m 39 ls []) := by
        intro v2 M H locs ls  hw hP hS hl
        unfold b_X2_nameOf_39 at hw
        obtain ⟨x_1, ex_1⟩ : ∃ z : Int32, z = v2 + 1 := ⟨_, rfl⟩
        have hw := hw x_1 ex_1
        refine lv_iinc (v := x_1) (lv' := [(2, .int x_1), (0, .ref (G.1 + h)), (1, .int v1)]) hx hb dX2_nameOf_39 hl (k := 2) rfl (by rw [ex_1]; rfl) (by decide) rfl (fun ls hl => ?_)
        refine lv_goto (tgt := 2) hx hb dX2_nameOf_42 (by decide) ?_
        exact ih2 x_1 M _ _ _ hw hP hS (lv_sub hl [1, 2, 0] rfl)
      intro v2 M H locs ls  hw hP hS hl
      have hw : B_X2_nameOf_2 h Q v1 (l_X2_nameOf_2 h Q v1 n2) v2 M := hw
      unfold B_X2_nameOf_2 at hw
      refine lv_iload_n hx hb dX2_nameOf_2 rfl (lv_at hl 2 rfl) ?_
      refine lv_iconst (v := 3) hx hb dX2_nameOf_3 (by decide) ?_
      refine lv_icmp_ge (tgt := 45) hx hb dX2_nameOf_4 (by decide) (fun c_2 => ?_) (fun c_2 => ?_)
      · have hw := hw.1 c_2
        refine lv_iconst (v := (-1)) hx hb dX2_nameOf_45 (by decide) ?_
        exact W.iret hx hb hr (mw_end hP hSt hTb hS ⟨_, rfl, hw⟩) hS.2.2 dX2_nameOf_46
      · have hw := hw.2 c_2
        refine lv_aload_n hx hb dX2_nameOf_7 rfl (lv_at hl 0 rfl) ?_
        refine mw_get (ci := 2) (v := .int (M h 2)) (C := RX2) (T := TX2) (N := 4) hx hb ht inX2 hown hSt hP kh (by decide) (mk2 kh) rfl 2 (by decide) (ht _ wf_RX2_27) rfl rfl dX2_nameOf_8 ?_
        refine lv_iconst (v := 3) hx hb dX2_nameOf_11 (by decide) ?_
        refine lv_imul hx hb dX2_nameOf_12 ?_
        refine lv_iload_n hx hb dX2_nameOf_13 rfl (lv_at hl 2 rfl) ?_
        refine lv_iadd hx hb dX2_nameOf_14 ?_
        refine lv_topi (fun x_3 ex_3 => ?_)
        have hw := hw x_3 ex_3
        refine lv_istore_n (lv' := [(3, .int x_3), (0, .ref (G.1 + h)), (1, .int v1), (2, .int v2)]) hx hb dX2_nameOf_15 rfl hl (by decide) rfl (fun ls hl => ?_)
        refine lv_iload_n hx hb dX2_nameOf_16 rfl (lv_at hl 0 rfl) ?_
        refine lv_if_lt (tgt := 39) hx hb dX2_nameOf_17 (by decide) (fun c_4 => ?_) (fun c_4 => ?_)
        · have hw := hw.1 c_4
          exact J_39 v2 M _ _ _ hw hP hS (lv_sub hl [1, 2, 3] rfl)
        · have hw := hw.2 c_4
          refine lv_iload_n hx hb dX2_nameOf_20 rfl (lv_at hl 0 rfl) ?_
          refine va_getsN (v := .ref G.2.2.2.2.2) hx hb hTb.2.2.1 hS hown (va_Nw.use rfl (hSt.2 (.fieldLinkNest RX2 80 "RaddleMarks" "NAMES" "[C" "RaddleMarks") (by decide +kernel))) (fun _ h9 => h9) dX2_nameOf_21 ?_
          refine mw_tlen hx hb hTb.2.2.2 hS dX2_nameOf_24 ?_
          refine lv_icmp_ge (tgt := 39) hx hb dX2_nameOf_25 (by decide) (fun c_5 => ?_) (fun c_5 => ?_)
          · have hw := hw.1 c_5
            exact J_39 v2 M _ _ _ hw hP hS (lv_sub hl [1, 2, 3] rfl)
          · have hw := hw.2 c_5
            refine va_getsN (v := .ref G.2.2.2.2.2) hx hb hTb.2.2.1 hS hown (va_Nw.use rfl (hSt.2 (.fieldLinkNest RX2 80 "RaddleMarks" "NAMES" "[C" "RaddleMarks") (by decide +kernel))) (fun _ h9 => h9) dX2_nameOf_28 ?_
            refine lv_iload_n hx hb dX2_nameOf_31 rfl (lv_at hl 0 rfl) ?_
            obtain ⟨c_6, hw⟩ := hw
            refine va_tc (v := .int (NA x_3.toNatClampNeg)) hx hb hTb.2.2.2 hS c_6 rfl dX2_nameOf_32 ?_
            refine lv_iload_n hx hb dX2_nameOf_33 rfl (lv_at hl 2 rfl) ?_
            refine lv_icmp_ne (tgt := 39) hx hb dX2_nameOf_34 (by decide) (fun c_7 => ?_) (fun c_7 => ?_)
            · have hw := hw.1 c_7
              exact J_39 v2 M _ _ _ hw hP hS (lv_sub hl [1, 2, 3] rfl)
            · have hw := hw.2 c_7
              refine lv_iload_n hx hb dX2_nameOf_37 rfl (lv_at hl 3 rfl) ?_
              exact W.iret hx hb hr (mw_end hP hSt hTb hS ⟨_, rfl, hw⟩) hS.2.2 dX2_nameOf_38
  refine lv_iconst (v := 0) hx hb dX2_nameOf_0 (by decide) ?_
  refine lv_istore_n (lv' := [(2, .int 0), (0, .ref (G.1 + h)), (1, .int a1)]) hx hb dX2_nameOf_1 rfl hl (by decide) rfl (fun ls hl => ?_)
  obtain ⟨n_, hw⟩ := hw
  exact L_2 a1 n_ 0 M _ _ _ hw hP hS (lv_sub hl [1, 2, 0] rfl)
def b_X2_readNumber_48 (h : Nat) (Q : Mem → Prop) (v1 : Int32) (M : Mem) : Prop :=
  wp_X3_append (h + 3) v1 M (fun r_2 M_1 => Q M_1)
def B_X2_readNumber_4 (h : Nat) (Q : Mem → Prop) (K4 : Int32 → Int32 → Mem → Prop) (v1 : Int32) (v2 : Int32) (M : Mem) : Prop :=
  (4 ≤ v2 → b_X2_readNumber_48 h Q v1 M) ∧ (¬ 4 ≤ v2 → wp_X2_next h M (fun r_5 M_4 => wp_X2_isDigit r_5 M_4 (fun r_7 M_6 => (r_7 = 0 → b_X2_readNumber_48 h Q v1 M_6) ∧ (¬ r_7 = 0 → wp_X2_next h M_6 (fun r_10 M_9 => ∀ x_11, x_11 = (v1 * 10) + (r_10 - 48) → ∀ M_12, M_12 = mu M_9 h 3 ((M_9 h 3) + 1) → ∀ x_13 : Int32, x_13 = v2 + 1 → K4 x_11 x_13 M_12)))))
def l_X2_readNumber_4 (h : Nat) (Q : Mem → Prop) : Nat → Int32 → Int32 → Mem → Prop
  | 0 => fun _ _ _ => False
  | n + 1 => B_X2_readNumber_4 h Q (l_X2_readNumber_4 h Q n)
def wp_X2_readNumber (h : Nat) (M : Mem) (Q : Mem → Prop) : Prop :=
  kdT h = 2 ∧ (∃ n, l_X2_readNumber_4 h Q n 0 0 M)
set_option maxHeartbeats 4000000 in
set_option maxRecDepth 100000 in
theorem so_X2_readNumber (l : Launch) (G : Gm) (h : Nat) (M : Mem) (Q : Mem → Prop) (hw : wp_X2_readNumber h M Q) : Ct l G yX2_readNumber cX2_readNumber 3 none ({ frames := 2, cells := 0, slots := 0, locals := 41 } : Room) [.ref (G.1 + h)] M (Qv Q) := by
  unfold wp_X2_readNumber at hw
  obtain ⟨kh, hw⟩ := hw
  refine ct_of (by decide) (Nat.le_of_ble_eq_true rfl) ?_
  intro p e s m below meth c E_ ls H hl hP hS
  obtain ⟨hx, hb, hml, hown, hts, ht, hr, hlocks, hSt, hTb⟩ := E_
  have hl : lv_has ls 3 [(0, .ref (G.1 + h))] := hl
  have J_48 : ∀ (v1 : Int32) (M : Mem) (H : Heap) (locs : List Loc) (ls : Array Slot), b_X2_readNumber_48 h Q v1 M → va_P G.2.1 clsA (wl G M) H → va_S (inW G) s.heap H locs → lv_has ls 3 [(0, .ref (G.1 + h)), (1, .int v1)] → W p l e ({ frames := 2, cells := 0, slots := 0, locals := 41 } : Room) s m ([.ref (G.1 + h)] : List Value).toArray below meth c H locs 0 0 (MQ below (Pq G (Qv Q)) ([.ref (G.1 + h)] : List Value).toArray s 0 0 (inW G)) (F0 m 48 ls []) := by
    intro v1 M H locs ls  hw hP hS hl
    unfold b_X2_readNumber_48 at hw
    refine lv_aload_n hx hb dX2_readNumber_48 rfl (lv_at hl 0 rfl) ?_
    refine mw_get (ci := 2) (v := .ref (G.1 + (h + 3))) (C := RX2) (T := TX2) (N := 4) hx hb ht inX2 hown hSt hP kh (by decide) (mk2 kh) rfl 1 (by decide) (ht _ wf_RX2_20) rfl rfl dX2_readNumber_49 ?_
    refine lv_iload_n hx hb dX2_readNumber_52 rfl (lv_at hl 1 rfl) ?_
    refine mw_V (As := [.int v1]) (rest := []) (T := TX3) (N := 2) (n := 1) ⟨hx, hb, hml, hown, hts⟩ (so_X3_append l G (h + 3) v1 M _ hw) wm_RX2_56 wi_yX3_append wv_yX3_append wn_RX3 wc_yX3_append (by decide) ⟨Nat.le_of_ble_eq_true rfl, Nat.le_of_ble_eq_true rfl⟩ ⟨rfl, rfl⟩ (ks2_1 kh) (by decide) (mk3 (ks2_1 kh)) rfl hSt hTb hP hS rfl hl.1 rfl (Nat.le_of_ble_eq_true rfl) dX2_readNumber_53 ⟨Nat.le_refl 0, Nat.le_refl 0⟩ (fun rr_ M_1 H locs hq hP hS => ?_)
    obtain ⟨r_2, rfl, hw⟩ := hq
    refine lv_pop hx hb dX2_readNumber_56 rfl ?_
    exact W.vret hx hb hr (mw_end hP hSt hTb hS ⟨rfl, hw⟩) hS.2.2 dX2_readNumber_57
  have L_4 : ∀ (n4 : Nat) (v1 : Int32) (v2 : Int32) (M : Mem) (H : Heap) (locs : List Loc) (ls : Array Slot), l_X2_readNumber_4 h Q n4 v1 v2 M → va_P G.2.1 clsA (wl G M) H → va_S (inW G) s.heap H locs → lv_has ls 3 [(0, .ref (G.1 + h)), (1, .int v1), (2, .int v2)] → W p l e ({ frames := 2, cells := 0, slots := 0, locals := 41 } : Room) s m ([.ref (G.1 + h)] : List Value).toArray below meth c H locs 0 0 (MQ below (Pq G (Qv Q)) ([.ref (G.1 + h)] : List Value).toArray s 0 0 (inW G)) (F0 m 4 ls []) := by
    intro   n4
    induction n4 with
    | zero => intro v1 v2 M H locs ls  hw hP hS hl; exact False.elim hw
    | succ n4 ih4 =>
      intro v1 v2 M H locs ls  hw hP hS hl
      have hw : B_X2_readNumber_4 h Q (l_X2_readNumber_4 h Q n4) v1 v2 M := hw
      unfold B_X2_readNumber_4 at hw
      refine lv_iload_n hx hb dX2_readNumber_4 rfl (lv_at hl 2 rfl) ?_
      refine lv_iconst (v := 4) hx hb dX2_readNumber_5 (by decide) ?_
      refine lv_icmp_ge (tgt := 48) hx hb dX2_readNumber_6 (by decide) (fun c_3 => ?_) (fun c_3 => ?_)
      · have hw := hw.1 c_3
        exact J_48 v1 M _ _ _ hw hP hS (lv_sub hl [0, 1] rfl)
      · have hw := hw.2 c_3
        refine lv_aload_n hx hb dX2_readNumber_9 rfl (lv_at hl 0 rfl) ?_
        refine mw_V (As := []) (rest := []) (T := TX2) (N := 4) (n := 0) ⟨hx, hb, hml, hown, hts⟩ (so_X2_next l G h M _ hw) wm_RX2_48 wi_yX2_next wv_yX2_next wn_RX2 wc_yX2_next (by decide) ⟨Nat.le_of_ble_eq_true rfl, Nat.le_of_ble_eq_true rfl⟩ ⟨rfl, rfl⟩ kh (by decide) (mk2 kh) rfl hSt hTb hP hS rfl hl.1 rfl (Nat.le_of_ble_eq_true rfl) dX2_readNumber_10 ⟨Nat.le_refl 0, Nat.le_refl 0⟩ (fun rr_ M_4 H locs hq hP hS => ?_)
        obtain ⟨r_5, rfl, hw⟩ := hq
        refine mw_Sx (As := [.int r_5]) (rest := []) (n := 1) ⟨hx, hb, hml, hown, hts⟩ (so_X2_isDigit l G r_5 M_4 _ hw) wm_RX2_59 wt_yX2_isDigit wn_RX2 wc_yX2_isDigit (by decide) ⟨Nat.le_of_ble_eq_true rfl, Nat.le_of_ble_eq_true rfl⟩ ⟨rfl, rfl⟩ hSt hTb hP hS rfl hl.1 rfl (Nat.le_of_ble_eq_true rfl) dX2_readNumber_13 ⟨Nat.le_refl 0, Nat.le_refl 0⟩ (fun rr_ M_6 H locs hq hP hS => ?_)
        obtain ⟨r_7, rfl, hw⟩ := hq
        refine lv_if_eq (tgt := 48) hx hb dX2_readNumber_16 (by decide) (fun c_8 => ?_) (fun c_8 => ?_)
        · have hw := hw.1 c_8
          exact J_48 v1 M_6 _ _ _ hw hP hS (lv_sub hl [0, 1] rfl)
        · have hw := hw.2 c_8
          refine lv_iload_n hx hb dX2_readNumber_19 rfl (lv_at hl 1 rfl) ?_
          refine lv_bipush (v := 10) hx hb dX2_readNumber_20 (by decide) ?_
          refine lv_imul hx hb dX2_readNumber_22 ?_
          refine lv_aload_n hx hb dX2_readNumber_23 rfl (lv_at hl 0 rfl) ?_
          refine mw_V (As := []) (rest := [.int (v1 * 10)]) (T := TX2) (N := 4) (n := 0) ⟨hx, hb, hml, hown, hts⟩ (so_X2_next l G h M_6 _ hw) wm_RX2_48 wi_yX2_next wv_yX2_next wn_RX2 wc_yX2_next (by decide) ⟨Nat.le_of_ble_eq_true rfl, Nat.le_of_ble_eq_true rfl⟩ ⟨rfl, rfl⟩ kh (by decide) (mk2 kh) rfl hSt hTb hP hS rfl hl.1 rfl (Nat.le_of_ble_eq_true rfl) dX2_readNumber_24 ⟨Nat.le_refl 0, Nat.le_refl 0⟩ (fun rr_ M_9 H locs hq hP hS => ?_)
          obtain ⟨r_10, rfl, hw⟩ := hq
          refine lv_bipush (v := 48) hx hb dX2_readNumber_27 (by decide) ?_
          refine lv_isub hx hb dX2_readNumber_29 ?_
          refine lv_iadd hx hb dX2_readNumber_30 ?_
          refine lv_topi (fun x_11 ex_11 => ?_)
          have hw := hw x_11 ex_11
          refine lv_istore_n (lv' := [(1, .int x_11), (0, .ref (G.1 + h)), (2, .int v2)]) hx hb dX2_readNumber_31 rfl hl (by decide) rfl (fun ls hl => ?_)
          refine lv_aload_n hx hb dX2_readNumber_32 rfl (lv_at hl 1 rfl) ?_
          refine lv_dup hx hb dX2_readNumber_33 rfl ?_
          refine mw_get (ci := 2) (v := .int (M_9 h 3)) (C := RX2) (T := TX2) (N := 4) hx hb ht inX2 hown hSt hP kh (by decide) (mk2 kh) rfl 3 (by decide) (ht _ wf_RX2_31) rfl rfl dX2_readNumber_34 ?_
          refine lv_iconst (v := 1) hx hb dX2_readNumber_37 (by decide) ?_
          refine lv_iadd hx hb dX2_readNumber_38 ?_
          refine mw_put (ci := 2) (v := (M_9 h 3) + 1) (ty := .int) (C := RX2) (T := TX2) (N := 4) hx hb ht inX2 tyX2 tyX2_ok nmX2 hown hSt hP hS kh (by decide) (mk2 kh) rfl 3 (by decide) (ht _ wf_RX2_31) rfl rfl (by decide +kernel) (vp_nar_int _) rfl (Nat.le_of_ble_eq_true rfl) (by rw [mk2 kh]; simp [mu]) dX2_readNumber_39 (fun M_12 H locs eM_12 hP hS => ?_)
          have hw := hw M_12 eM_12
          obtain ⟨x_13, ex_13⟩ : ∃ z : Int32, z = v2 + 1 := ⟨_, rfl⟩
          have hw := hw x_13 ex_13
          refine lv_iinc (v := x_13) (lv' := [(2, .int x_13), (1, .int x_11), (0, .ref (G.1 + h))]) hx hb dX2_readNumber_42 hl (k := 2) rfl (by rw [ex_13]; rfl) (by decide) rfl (fun ls hl => ?_)
          refine lv_goto (tgt := 4) hx hb dX2_readNumber_45 (by decide) ?_
          exact ih4 x_11 x_13 M_12 _ _ _ hw hP hS (lv_sub hl [2, 1, 0] rfl)
  refine lv_iconst (v := 0) hx hb dX2_readNumber_0 (by decide) ?_
  refine lv_istore_n (lv' := [(1, .int 0), (0, .ref (G.1 + h))]) hx hb dX2_readNumber_1 rfl hl (by decide) rfl (fun ls hl => ?_)
  refine lv_iconst (v := 0) hx hb dX2_readNumber_2 (by decide) ?_
  refine lv_istore_n (lv' := [(2, .int 0), (1, .int 0), (0, .ref (G.1 + h))]) hx hb dX2_readNumber_3 rfl hl (by decide) rfl (fun ls hl => ?_)
  obtain ⟨n_, hw⟩ := hw
  exact L_4 n_ 0 0 M _ _ _ hw hP hS (lv_sub hl [2, 1, 0] rfl)
def B_X2_readLevel_39 (g0 : Nat → Int32 → Int32 → Mem → (Int32 → Mem → Prop) → Prop) (g1 : Nat → Int32 → Mem → (Int32 → Mem → Prop) → Prop) (g2 : Nat → Int32 → Mem → (Int32 → Mem → Prop) → Prop) (g3 : Nat → Int32 → Mem → (Int32 → Mem → Prop) → Prop) (h : Nat) (Q : Int32 → Mem → Prop) (v1 : Int32) (v2 : Int32) (v3 : Int32) (K39 : Int32 → Mem → Prop) (v4 : Int32) (M : Mem) : Prop :=
  (v3 ≤ v4 → Q 1 M) ∧ (¬ v3 ≤ v4 → wp_X2_next h M (fun r_3 M_2 => wp_X2_levelOf r_3 M_2 (fun r_5 M_4 => (¬ r_5 = v1 → Q 1 M_4) ∧ (r_5 = v1 → wp_X2_next h M_4 (fun r_8 M_7 => ∀ M_9, M_9 = mu M_7 h 3 ((M_7 h 3) + 1) → g0 h (v1 + 1) v2 M_9 (fun r_11 M_10 => (¬ r_11 = 0 → wp_X3_append (h + 3) (-r_8) M_10 (fun r_14 M_13 => ∀ x_15 : Int32, x_15 = v4 + 1 → K39 x_15 M_13)) ∧ (r_11 = 0 → Q 0 M_10)))))))
def l_X2_readLevel_39 (g0 : Nat → Int32 → Int32 → Mem → (Int32 → Mem → Prop) → Prop) (g1 : Nat → Int32 → Mem → (Int32 → Mem → Prop) → Prop) (g2 : Nat → Int32 → Mem → (Int32 → Mem → Prop) → Prop) (g3 : Nat → Int32 → Mem → (Int32 → Mem → Prop) → Prop) (h : Nat) (Q : Int32 → Mem → Prop) (v1 : Int32) (v2 : Int32) (v3 : Int32) : Nat → Int32 → Mem → Prop
  | 0 => fun _ _ => False
  | n + 1 => B_X2_readLevel_39 g0 g1 g2 g3 h Q v1 v2 v3 (l_X2_readLevel_39 g0 g1 g2 g3 h Q v1 v2 v3 n)
def b_X2_readLevel_35 (g0 : Nat → Int32 → Int32 → Mem → (Int32 → Mem → Prop) → Prop) (g1 : Nat → Int32 → Mem → (Int32 → Mem → Prop) → Prop) (g2 : Nat → Int32 → Mem → (Int32 → Mem → Prop) → Prop) (g3 : Nat → Int32 → Mem → (Int32 → Mem → Prop) → Prop) (h : Nat) (Q : Int32 → Mem → Prop) (v1 : Int32) (v2 : Int32) (s0 : Int32) (M : Mem) : Prop :=
  ∃ n, l_X2_readLevel_39 g0 g1 g2 g3 h Q v1 v2 s0 n 0 M
def wb_X2_readLevel (g0 : Nat → Int32 → Int32 → Mem → (Int32 → Mem → Prop) → Prop) (g1 : Nat → Int32 → Mem → (Int32 → Mem → Prop) → Prop) (g2 : Nat → Int32 → Mem → (Int32 → Mem → Prop) → Prop) (g3 : Nat → Int32 → Mem → (Int32 → Mem → Prop) → Prop) (h : Nat) (a1 : Int32) (a2 : Int32) (M : Mem) (Q : Int32 → Mem → Prop) : Prop :=
  kdT h = 2 ∧ ((a1 < 5 → g0 h (a1 + 1) a2 M (fun r_18 M_17 => (¬ r_18 = 0 → (¬ a1 = 2 → b_X2_readLevel_35 g0 g1 g2 g3 h Q a1 a2 50 M_17) ∧ (a1 = 2 → b_X2_readLevel_35 g0 g1 g2 g3 h Q a1 a2 1 M_17)) ∧ (r_18 = 0 → Q 0 M_17))) ∧ (¬ a1 < 5 → g1 h a2 M (fun r_22 M_21 => isb r_22 ∧ Q r_22 M_21)))
def b_X2_readFactor_63 (g0 : Nat → Int32 → Int32 → Mem → (Int32 → Mem → Prop) → Prop) (g1 : Nat → Int32 → Mem → (Int32 → Mem → Prop) → Prop) (g2 : Nat → Int32 → Mem → (Int32 → Mem → Prop) → Prop) (g3 : Nat → Int32 → Mem → (Int32 → Mem → Prop) → Prop) (h : Nat) (Q : Int32 → Mem → Prop) (v1 : Int32) (v2 : Int32) (M : Mem) : Prop :=
  (v1 < 5 → ∀ M_2, M_2 = mu M h 3 ((M h 3) + 1) → (¬ v2 = 33 → g3 h (v1 + 1) M_2 (fun r_5 M_4 => isb r_5 ∧ Q r_5 M_4)) ∧ (v2 = 33 → g2 h (v1 + 1) M_2 (fun r_8 M_7 => isb r_8 ∧ Q r_8 M_7))) ∧ (¬ v1 < 5 → Q 0 M)
def wb_X2_readFactor (g0 : Nat → Int32 → Int32 → Mem → (Int32 → Mem → Prop) → Prop) (g1 : Nat → Int32 → Mem → (Int32 → Mem → Prop) → Prop) (g2 : Nat → Int32 → Mem → (Int32 → Mem → Prop) → Prop) (g3 : Nat → Int32 → Mem → (Int32 → Mem → Prop) → Prop) (h : Nat) (a1 : Int32) (M : Mem) (Q : Int32 → Mem → Prop) : Prop :=
  kdT h = 2 ∧ (wp_X2_next h M (fun r_11 M_10 => wp_X2_isDigit r_11 M_10 (fun r_13 M_12 => (r_13 = 0 → wp_X2_nameOf h r_11 M_12 (fun r_16 M_15 => (r_16 < 0 → (r_11 = 33 → b_X2_readFactor_63 g0 g1 g2 g3 h Q a1 r_11 M_15) ∧ (¬ r_11 = 33 → (¬ r_11 = 40 → Q 0 M_15) ∧ (r_11 = 40 → b_X2_readFactor_63 g0 g1 g2 g3 h Q a1 r_11 M_15))) ∧ (¬ r_16 < 0 → ∀ M_20, M_20 = mu M_15 h 3 ((M_15 h 3) + 1) → wp_X3_append (h + 3) ((-1) - r_16) M_20 (fun r_22 M_21 => Q 1 M_21)))) ∧ (¬ r_13 = 0 → wp_X2_readNumber h M_12 (fun M_23 => Q 1 M_23)))))
def wb_X2_readDenied (g0 : Nat → Int32 → Int32 → Mem → (Int32 → Mem → Prop) → Prop) (g1 : Nat → Int32 → Mem → (Int32 → Mem → Prop) → Prop) (g2 : Nat → Int32 → Mem → (Int32 → Mem → Prop) → Prop) (g3 : Nat → Int32 → Mem → (Int32 → Mem → Prop) → Prop) (h : Nat) (a1 : Int32) (M : Mem) (Q : Int32 → Mem → Prop) : Prop :=
  kdT h = 2 ∧ (g1 h a1 M (fun r_2 M_1 => (¬ r_2 = 0 → wp_X3_append (h + 3) (-33) M_1 (fun r_5 M_4 => Q 1 M_4)) ∧ (r_2 = 0 → Q 0 M_1)))
def wb_X2_readEnclosed (g0 : Nat → Int32 → Int32 → Mem → (Int32 → Mem → Prop) → Prop) (g1 : Nat → Int32 → Mem → (Int32 → Mem → Prop) → Prop) (g2 : Nat → Int32 → Mem → (Int32 → Mem → Prop) → Prop) (g3 : Nat → Int32 → Mem → (Int32 → Mem → Prop) → Prop) (h : Nat) (a1 : Int32) (M : Mem) (Q : Int32 → Mem → Prop) : Prop :=
  kdT h = 2 ∧ (g0 h 0 a1 M (fun r_2 M_1 => (r_2 = 0 → Q 0 M_1) ∧ (¬ r_2 = 0 → wp_X2_next h M_1 (fun r_5 M_4 => (r_5 = 41 → ∀ M_7, M_7 = mu M_4 h 3 ((M_4 h 3) + 1) → Q 1 M_7) ∧ (¬ r_5 = 41 → Q 0 M_4)))))
def rgR (d : Nat) : Room := { frames := 3 + d, cells := 0, slots := 0, locals := 63 + d * 25 }
def wg_R : Nat → (Nat → Int32 → Int32 → Mem → (Int32 → Mem → Prop) → Prop) × (Nat → Int32 → Mem → (Int32 → Mem → Prop) → Prop) × (Nat → Int32 → Mem → (Int32 → Mem → Prop) → Prop) × (Nat → Int32 → Mem → (Int32 → Mem → Prop) → Prop)
  | 0 => (fun _ _ _ _ _ => False, fun _ _ _ _ => False, fun _ _ _ _ => False, fun _ _ _ _ => False)
  | d + 1 => (wb_X2_readLevel ((wg_R d).1) ((wg_R d).2.1) ((wg_R d).2.2.1) ((wg_R d).2.2.2), wb_X2_readFactor ((wg_R d).1) ((wg_R d).2.1) ((wg_R d).2.2.1) ((wg_R d).2.2.2), wb_X2_readDenied ((wg_R d).1) ((wg_R d).2.1) ((wg_R d).2.2.1) ((wg_R d).2.2.2), wb_X2_readEnclosed ((wg_R d).1) ((wg_R d).2.1) ((wg_R d).2.2.1) ((wg_R d).2.2.2))
def wp_X2_readLevel (d : Nat) : Nat → Int32 → Int32 → Mem → (Int32 → Mem → Prop) → Prop := (wg_R d).1
def wp_X2_readFactor (d : Nat) : Nat → Int32 → Mem → (Int32 → Mem → Prop) → Prop := (wg_R d).2.1
def wp_X2_readDenied (d : Nat) : Nat → Int32 → Mem → (Int32 → Mem → Prop) → Prop := (wg_R d).2.2.1
def wp_X2_readEnclosed (d : Nat) : Nat → Int32 → Mem → (Int32 → Mem → Prop) → Prop := (wg_R d).2.2.2
set_option maxHeartbeats 8000000 in
set_option maxRecDepth 100000 in
theorem sg_R (l : Launch) (G : Gm) : ∀ d : Nat, (∀ (h : Nat) (a1 : Int32) (a2 : Int32) (M : Mem) (Q : Int32 → Mem → Prop), (wg_R d).1 h a1 a2 M Q → Ct l G yX2_readLevel cX2_readLevel 6 (some .boolean) (rgR d) [.ref (G.1 + h), .int a1, .int a2] M (Qi Q)) ∧ (∀ (h : Nat) (a1 : Int32) (M : Mem) (Q : Int32 → Mem → Prop), (wg_R d).2.1 h a1 M Q → Ct l G yX2_readFactor cX2_readFactor 4 (some .boolean) (rgR d) [.ref (G.1 + h), .int a1] M (Qi Q)) ∧ (∀ (h : Nat) (a1 : Int32) (M : Mem) (Q : Int32 → Mem → Prop), (wg_R d).2.2.1 h a1 M Q → Ct l G yX2_readDenied cX2_readDenied 2 (some .boolean) (rgR d) [.ref (G.1 + h), .int a1] M (Qi Q)) ∧ (∀ (h : Nat) (a1 : Int32) (M : Mem) (Q : Int32 → Mem → Prop), (wg_R d).2.2.2 h a1 M Q → Ct l G yX2_readEnclosed cX2_readEnclosed 2 (some .boolean) (rgR d) [.ref (G.1 + h), .int a1] M (Qi Q)) := by
  intro d
  induction d with
  | zero => refine ⟨fun _ _ _ _ _ hw_ => False.elim hw_, fun _ _ _ _ hw_ => False.elim hw_, fun _ _ _ _ hw_ => False.elim hw_, fun _ _ _ _ hw_ => False.elim hw_⟩
  | succ d ih =>
    obtain ⟨g0, eg0⟩ : ∃ z, z = (wg_R d).1 := ⟨_, rfl⟩
    obtain ⟨g1, eg1⟩ : ∃ z, z = (wg_R d).2.1 := ⟨_, rfl⟩
    obtain ⟨g2, eg2⟩ : ∃ z, z = (wg_R d).2.2.1 := ⟨_, rfl⟩
    obtain ⟨g3, eg3⟩ : ∃ z, z = (wg_R d).2.2.2 := ⟨_, rfl⟩
    rw [← eg0] at ih
    rw [← eg1] at ih
    rw [← eg2] at ih
    rw [← eg3] at ih
    refine ⟨?_, ?_, ?_, ?_⟩
    · intro h a1 a2 M Q hw
      have hw : wb_X2_readLevel g0 g1 g2 g3 h a1 a2 M Q := by rw [eg0]; rw [eg1]; rw [eg2]; rw [eg3]; exact hw
      unfold wb_X2_readLevel at hw
      obtain ⟨kh, hw⟩ := hw
      refine ct_of (by decide) (Nat.le_of_ble_eq_true rfl) ?_
      intro p e s m below meth c E_ ls H hl hP hS
      obtain ⟨hx, hb, hml, hown, hts, ht, hr, hlocks, hSt, hTb⟩ := E_
      have hl : lv_has ls 6 [(0, .ref (G.1 + h)), (1, .int a1), (2, .int a2)] := hl
      have L_39 : ∀ (v1 : Int32) (v2 : Int32) (v3 : Int32), ∀ (n39 : Nat) (v4 : Int32) (M : Mem) (H : Heap) (locs : List Loc) (ls : Array Slot), l_X2_readLevel_39 g0 g1 g2 g3 h Q v1 v2 v3 n39 v4 M → va_P G.2.1 clsA (wl G M) H → va_S (inW G) s.heap H locs → lv_has ls 6 [(0, .ref (G.1 + h)), (1, .int v1), (2, .int v2), (3, .int v3), (4, .int v4)] → W p l e (rgR (d + 1)) s m ([.ref (G.1 + h), .int a1, .int a2] : List Value).toArray below meth c H locs 0 0 (MQ below (Pq G (Qi Q)) ([.ref (G.1 + h), .int a1, .int a2] : List Value).toArray s 0 0 (inW G)) (F0 m 39 ls []) := by
        intro v1 v2 v3  n39
        induction n39 with
        | zero => intro v4 M H locs ls  hw hP hS hl; exact False.elim hw
        | succ n39 ih39 =>
          intro v4 M H locs ls  hw hP hS hl
          have hw : B_X2_readLevel_39 g0 g1 g2 g3 h Q v1 v2 v3 (l_X2_readLevel_39 g0 g1 g2 g3 h Q v1 v2 v3 n39) v4 M := hw
          unfold B_X2_readLevel_39 at hw
          refine lv_iload hx hb dX2_readLevel_39 (lv_at hl 4 rfl) ?_
          refine lv_iload_n hx hb dX2_readLevel_41 rfl (lv_at hl 3 rfl) ?_
          refine lv_icmp_ge (tgt := 102) hx hb dX2_readLevel_42 (by decide) (fun c_1 => ?_) (fun c_1 => ?_)
          · have hw := hw.1 c_1
            refine lv_iconst (v := 1) hx hb dX2_readLevel_102 (by decide) ?_
            exact W.zret (v := 1) hx hb hr (by decide) (mw_end hP hSt hTb hS ⟨_, rfl, hw⟩) hS.2.2 dX2_readLevel_103
          · have hw := hw.2 c_1
            refine lv_aload_n hx hb dX2_readLevel_45 rfl (lv_at hl 0 rfl) ?_
            refine mw_V (As := []) (rest := []) (T := TX2) (N := 4) (n := 0) ⟨hx, hb, hml, hown, hts⟩ (so_X2_next l G h M _ hw) wm_RX2_48 wi_yX2_next wv_yX2_next wn_RX2 wc_yX2_next (by decide) (by constructor <;> (simp only [rgR]; omega)) ⟨rfl, rfl⟩ kh (by decide) (mk2 kh) rfl hSt hTb hP hS rfl hl.1 rfl (Nat.le_of_ble_eq_true rfl) dX2_readLevel_46 ⟨Nat.le_refl 0, Nat.le_refl 0⟩ (fun rr_ M_2 H locs hq hP hS => ?_)
            obtain ⟨r_3, rfl, hw⟩ := hq
            refine mw_Sx (As := [.int r_3]) (rest := []) (n := 1) ⟨hx, hb, hml, hown, hts⟩ (so_X2_levelOf l G r_3 M_2 _ hw) wm_RX2_52 wt_yX2_levelOf wn_RX2 wc_yX2_levelOf (by decide) (by constructor <;> (simp only [rgR]; omega)) ⟨rfl, rfl⟩ hSt hTb hP hS rfl hl.1 rfl (Nat.le_of_ble_eq_true rfl) dX2_readLevel_49 ⟨Nat.le_refl 0, Nat.le_refl 0⟩ (fun rr_ M_4 H locs hq hP hS => ?_)
            obtain ⟨r_5, rfl, hw⟩ := hq
            refine lv_iload_n hx hb dX2_readLevel_52 rfl (lv_at hl 1 rfl) ?_
            refine lv_icmp_ne (tgt := 102) hx hb dX2_readLevel_53 (by decide) (fun c_6 => ?_) (fun c_6 => ?_)
            · have hw := hw.1 c_6
              refine lv_iconst (v := 1) hx hb dX2_readLevel_102 (by decide) ?_
              exact W.zret (v := 1) hx hb hr (by decide) (mw_end hP hSt hTb hS ⟨_, rfl, hw⟩) hS.2.2 dX2_readLevel_103
            · have hw := hw.2 c_6
              refine lv_aload_n hx hb dX2_readLevel_56 rfl (lv_at hl 0 rfl) ?_
              refine mw_V (As := []) (rest := []) (T := TX2) (N := 4) (n := 0) ⟨hx, hb, hml, hown, hts⟩ (so_X2_next l G h M_4 _ hw) wm_RX2_48 wi_yX2_next wv_yX2_next wn_RX2 wc_yX2_next (by decide) (by constructor <;> (simp only [rgR]; omega)) ⟨rfl, rfl⟩ kh (by decide) (mk2 kh) rfl hSt hTb hP hS rfl hl.1 rfl (Nat.le_of_ble_eq_true rfl) dX2_readLevel_57 ⟨Nat.le_refl 0, Nat.le_refl 0⟩ (fun rr_ M_7 H locs hq hP hS => ?_)
              obtain ⟨r_8, rfl, hw⟩ := hq
              refine lv_istore (lv' := [(5, .int r_8), (0, .ref (G.1 + h)), (1, .int v1), (2, .int v2), (3, .int v3), (4, .int v4)]) hx hb dX2_readLevel_60 hl (by decide) rfl (fun ls hl => ?_)
              refine lv_aload_n hx hb dX2_readLevel_62 rfl (lv_at hl 1 rfl) ?_
              refine lv_dup hx hb dX2_readLevel_63 rfl ?_
              refine mw_get (ci := 2) (v := .int (M_7 h 3)) (C := RX2) (T := TX2) (N := 4) hx hb ht inX2 hown hSt hP kh (by decide) (mk2 kh) rfl 3 (by decide) (ht _ wf_RX2_31) rfl rfl dX2_readLevel_64 ?_
              refine lv_iconst (v := 1) hx hb dX2_readLevel_67 (by decide) ?_
              refine lv_iadd hx hb dX2_readLevel_68 ?_
              refine mw_put (ci := 2) (v := (M_7 h 3) + 1) (ty := .int) (C := RX2) (T := TX2) (N := 4) hx hb ht inX2 tyX2 tyX2_ok nmX2 hown hSt hP hS kh (by decide) (mk2 kh) rfl 3 (by decide) (ht _ wf_RX2_31) rfl rfl (by decide +kernel) (vp_nar_int _) rfl (Nat.le_of_ble_eq_true rfl) (by rw [mk2 kh]; simp [mu]) dX2_readLevel_69 (fun M_9 H locs eM_9 hP hS => ?_)
              have hw := hw M_9 eM_9
              refine lv_aload_n hx hb dX2_readLevel_72 rfl (lv_at hl 1 rfl) ?_
              refine lv_iload_n hx hb dX2_readLevel_73 rfl (lv_at hl 2 rfl) ?_
              refine lv_iconst (v := 1) hx hb dX2_readLevel_74 (by decide) ?_
              refine lv_iadd hx hb dX2_readLevel_75 ?_
              refine lv_iload_n hx hb dX2_readLevel_76 rfl (lv_at hl 3 rfl) ?_
              refine mw_V (As := [.int (v1 + 1), .int v2]) (rest := []) (T := TX2) (N := 4) (n := 2) ⟨hx, hb, hml, hown, hts⟩ (ih.1 h (v1 + 1) v2 M_9 _ hw) wm_RX2_37 wi_yX2_readLevel wv_yX2_readLevel wn_RX2 wc_yX2_readLevel (by decide) (by constructor <;> (simp only [rgR]; omega)) ⟨rfl, rfl⟩ kh (by decide) (mk2 kh) rfl hSt hTb hP hS rfl hl.1 rfl (Nat.le_of_ble_eq_true rfl) dX2_readLevel_77 ⟨Nat.le_refl 0, Nat.le_refl 0⟩ (fun rr_ M_10 H locs hq hP hS => ?_)
              obtain ⟨r_11, rfl, hw⟩ := hq
              refine lv_if_ne (tgt := 85) hx hb dX2_readLevel_80 (by decide) (fun c_12 => ?_) (fun c_12 => ?_)
              · have hw := hw.1 c_12
                refine lv_aload_n hx hb dX2_readLevel_85 rfl (lv_at hl 1 rfl) ?_
                refine mw_get (ci := 2) (v := .ref (G.1 + (h + 3))) (C := RX2) (T := TX2) (N := 4) hx hb ht inX2 hown hSt hP kh (by decide) (mk2 kh) rfl 1 (by decide) (ht _ wf_RX2_20) rfl rfl dX2_readLevel_86 ?_
                refine lv_iload hx hb dX2_readLevel_89 (lv_at hl 0 rfl) ?_
                refine lv_ineg hx hb dX2_readLevel_91 ?_
                refine mw_V (As := [.int (-r_8)]) (rest := []) (T := TX3) (N := 2) (n := 1) ⟨hx, hb, hml, hown, hts⟩ (so_X3_append l G (h + 3) (-r_8) M_10 _ hw) wm_RX2_56 wi_yX3_append wv_yX3_append wn_RX3 wc_yX3_append (by decide) (by constructor <;> (simp only [rgR]; omega)) ⟨rfl, rfl⟩ (ks2_1 kh) (by decide) (mk3 (ks2_1 kh)) rfl hSt hTb hP hS rfl hl.1 rfl (Nat.le_of_ble_eq_true rfl) dX2_readLevel_92 ⟨Nat.le_refl 0, Nat.le_refl 0⟩ (fun rr_ M_13 H locs hq hP hS => ?_)
                obtain ⟨r_14, rfl, hw⟩ := hq
                refine lv_pop hx hb dX2_readLevel_95 rfl ?_
                obtain ⟨x_15, ex_15⟩ : ∃ z : Int32, z = v4 + 1 := ⟨_, rfl⟩
                have hw := hw x_15 ex_15
                refine lv_iinc (v := x_15) (lv' := [(4, .int x_15), (5, .int r_8), (0, .ref (G.1 + h)), (1, .int v1), (2, .int v2), (3, .int v3)]) hx hb dX2_readLevel_96 hl (k := 5) rfl (by rw [ex_15]; rfl) (by decide) rfl (fun ls hl => ?_)
                refine lv_goto (tgt := 39) hx hb dX2_readLevel_99 (by decide) ?_
                exact ih39 x_15 M_13 _ _ _ hw hP hS (lv_sub hl [2, 3, 4, 5, 0] rfl)
              · have hw := hw.2 c_12
                refine lv_iconst (v := 0) hx hb dX2_readLevel_83 (by decide) ?_
                exact W.zret (v := 0) hx hb hr (by decide) (mw_end hP hSt hTb hS ⟨_, rfl, hw⟩) hS.2.2 dX2_readLevel_84
      have J_35 : ∀ (v1 : Int32) (v2 : Int32) (s0 : Int32) (M : Mem) (H : Heap) (locs : List Loc) (ls : Array Slot), b_X2_readLevel_35 g0 g1 g2 g3 h Q v1 v2 s0 M → va_P G.2.1 clsA (wl G M) H → va_S (inW G) s.heap H locs → lv_has ls 6 [(0, .ref (G.1 + h)), (1, .int v1), (2, .int v2)] → W p l e (rgR (d + 1)) s m ([.ref (G.1 + h), .int a1, .int a2] : List Value).toArray below meth c H locs 0 0 (MQ below (Pq G (Qi Q)) ([.ref (G.1 + h), .int a1, .int a2] : List Value).toArray s 0 0 (inW G)) (F0 m 35 ls [.int s0]) := by
        intro v1 v2 s0 M H locs ls  hw hP hS hl
        unfold b_X2_readLevel_35 at hw
        refine lv_istore_n (lv' := [(3, .int s0), (0, .ref (G.1 + h)), (1, .int v1), (2, .int v2)]) hx hb dX2_readLevel_35 rfl hl (by decide) rfl (fun ls hl => ?_)
        refine lv_iconst (v := 0) hx hb dX2_readLevel_36 (by decide) ?_
        refine lv_istore (lv' := [(4, .int 0), (3, .int s0), (0, .ref (G.1 + h)), (1, .int v1), (2, .int v2)]) hx hb dX2_readLevel_37 hl (by decide) rfl (fun ls hl => ?_)
        obtain ⟨n_, hw⟩ := hw
        exact L_39 v1 v2 s0 n_ 0 M _ _ _ hw hP hS (lv_sub hl [2, 3, 4, 1, 0] rfl)
      refine lv_iload_n hx hb dX2_readLevel_0 rfl (lv_at hl 1 rfl) ?_
      refine lv_iconst (v := 5) hx hb dX2_readLevel_1 (by decide) ?_
      refine lv_icmp_lt (tgt := 11) hx hb dX2_readLevel_2 (by decide) (fun c_16 => ?_) (fun c_16 => ?_)
      · have hw := hw.1 c_16
        refine lv_aload_n hx hb dX2_readLevel_11 rfl (lv_at hl 0 rfl) ?_
        refine lv_iload_n hx hb dX2_readLevel_12 rfl (lv_at hl 1 rfl) ?_
        refine lv_iconst (v := 1) hx hb dX2_readLevel_13 (by decide) ?_
        refine lv_iadd hx hb dX2_readLevel_14 ?_
        refine lv_iload_n hx hb dX2_readLevel_15 rfl (lv_at hl 2 rfl) ?_
        refine mw_V (As := [.int (a1 + 1), .int a2]) (rest := []) (T := TX2) (N := 4) (n := 2) ⟨hx, hb, hml, hown, hts⟩ (ih.1 h (a1 + 1) a2 M _ hw) wm_RX2_37 wi_yX2_readLevel wv_yX2_readLevel wn_RX2 wc_yX2_readLevel (by decide) (by constructor <;> (simp only [rgR]; omega)) ⟨rfl, rfl⟩ kh (by decide) (mk2 kh) rfl hSt hTb hP hS rfl hl.1 rfl (Nat.le_of_ble_eq_true rfl) dX2_readLevel_16 ⟨Nat.le_refl 0, Nat.le_refl 0⟩ (fun rr_ M_17 H locs hq hP hS => ?_)
        obtain ⟨r_18, rfl, hw⟩ := hq
        refine lv_if_ne (tgt := 24) hx hb dX2_readLevel_19 (by decide) (fun c_19 => ?_) (fun c_19 => ?_)
        · have hw := hw.1 c_19
          refine lv_iload_n hx hb dX2_readLevel_24 rfl (lv_at hl 1 rfl) ?_
          refine lv_iconst (v := 2) hx hb dX2_readLevel_25 (by decide) ?_
          refine lv_icmp_ne (tgt := 33) hx hb dX2_readLevel_26 (by decide) (fun c_20 => ?_) (fun c_20 => ?_)
          · have hw := hw.1 c_20
            refine lv_bipush (v := 50) hx hb dX2_readLevel_33 (by decide) ?_
            exact J_35 a1 a2 50 M_17 _ _ _ hw hP hS (lv_sub hl [0, 1, 2] rfl)
          · have hw := hw.2 c_20
            refine lv_iconst (v := 1) hx hb dX2_readLevel_29 (by decide) ?_
            refine lv_goto (tgt := 35) hx hb dX2_readLevel_30 (by decide) ?_
            exact J_35 a1 a2 1 M_17 _ _ _ hw hP hS (lv_sub hl [0, 1, 2] rfl)
        · have hw := hw.2 c_19
          refine lv_iconst (v := 0) hx hb dX2_readLevel_22 (by decide) ?_
          exact W.zret (v := 0) hx hb hr (by decide) (mw_end hP hSt hTb hS ⟨_, rfl, hw⟩) hS.2.2 dX2_readLevel_23
      · have hw := hw.2 c_16
        refine lv_aload_n hx hb dX2_readLevel_5 rfl (lv_at hl 0 rfl) ?_
        refine lv_iload_n hx hb dX2_readLevel_6 rfl (lv_at hl 2 rfl) ?_
        refine mw_V (As := [.int a2]) (rest := []) (T := TX2) (N := 4) (n := 1) ⟨hx, hb, hml, hown, hts⟩ (ih.2.1 h a2 M _ hw) wm_RX2_44 wi_yX2_readFactor wv_yX2_readFactor wn_RX2 wc_yX2_readFactor (by decide) (by constructor <;> (simp only [rgR]; omega)) ⟨rfl, rfl⟩ kh (by decide) (mk2 kh) rfl hSt hTb hP hS rfl hl.1 rfl (Nat.le_of_ble_eq_true rfl) dX2_readLevel_7 ⟨Nat.le_refl 0, Nat.le_refl 0⟩ (fun rr_ M_21 H locs hq hP hS => ?_)
        obtain ⟨r_22, rfl, hw⟩ := hq
        obtain ⟨c_23, hw⟩ := hw
        exact W.zret hx hb hr c_23.narrow (mw_end hP hSt hTb hS ⟨_, rfl, hw⟩) hS.2.2 dX2_readLevel_10
    · intro h a1 M Q hw
      have hw : wb_X2_readFactor g0 g1 g2 g3 h a1 M Q := by rw [eg0]; rw [eg1]; rw [eg2]; rw [eg3]; exact hw
      unfold wb_X2_readFactor at hw
      obtain ⟨kh, hw⟩ := hw
      refine ct_of (by decide) (Nat.le_of_ble_eq_true rfl) ?_
      intro p e s m below meth c E_ ls H hl hP hS
      obtain ⟨hx, hb, hml, hown, hts, ht, hr, hlocks, hSt, hTb⟩ := E_
      have hl : lv_has ls 4 [(0, .ref (G.1 + h)), (1, .int a1)] := hl
      have J_63 : ∀ (v1 : Int32) (v2 : Int32) (M : Mem) (H : Heap) (locs : List Loc) (ls : Array Slot), b_X2_readFactor_63 g0 g1 g2 g3 h Q v1 v2 M → va_P G.2.1 clsA (wl G M) H → va_S (inW G) s.heap H locs → lv_has ls 4 [(0, .ref (G.1 + h)), (1, .int v1), (2, .int v2)] → W p l e (rgR (d + 1)) s m ([.ref (G.1 + h), .int a1] : List Value).toArray below meth c H locs 0 0 (MQ below (Pq G (Qi Q)) ([.ref (G.1 + h), .int a1] : List Value).toArray s 0 0 (inW G)) (F0 m 63 ls []) := by
        intro v1 v2 M H locs ls  hw hP hS hl
        unfold b_X2_readFactor_63 at hw
        refine lv_iload_n hx hb dX2_readFactor_63 rfl (lv_at hl 1 rfl) ?_
        refine lv_iconst (v := 5) hx hb dX2_readFactor_64 (by decide) ?_
        refine lv_icmp_lt (tgt := 70) hx hb dX2_readFactor_65 (by decide) (fun c_1 => ?_) (fun c_1 => ?_)
        · have hw := hw.1 c_1
          refine lv_aload_n hx hb dX2_readFactor_70 rfl (lv_at hl 0 rfl) ?_
          refine lv_dup hx hb dX2_readFactor_71 rfl ?_
          refine mw_get (ci := 2) (v := .int (M h 3)) (C := RX2) (T := TX2) (N := 4) hx hb ht inX2 hown hSt hP kh (by decide) (mk2 kh) rfl 3 (by decide) (ht _ wf_RX2_31) rfl rfl dX2_readFactor_72 ?_
          refine lv_iconst (v := 1) hx hb dX2_readFactor_75 (by decide) ?_
          refine lv_iadd hx hb dX2_readFactor_76 ?_
          refine mw_put (ci := 2) (v := (M h 3) + 1) (ty := .int) (C := RX2) (T := TX2) (N := 4) hx hb ht inX2 tyX2 tyX2_ok nmX2 hown hSt hP hS kh (by decide) (mk2 kh) rfl 3 (by decide) (ht _ wf_RX2_31) rfl rfl (by decide +kernel) (vp_nar_int _) rfl (Nat.le_of_ble_eq_true rfl) (by rw [mk2 kh]; simp [mu]) dX2_readFactor_77 (fun M_2 H locs eM_2 hP hS => ?_)
          have hw := hw M_2 eM_2
          refine lv_iload_n hx hb dX2_readFactor_80 rfl (lv_at hl 2 rfl) ?_
          refine lv_bipush (v := 33) hx hb dX2_readFactor_81 (by decide) ?_
          refine lv_icmp_ne (tgt := 96) hx hb dX2_readFactor_83 (by decide) (fun c_3 => ?_) (fun c_3 => ?_)
          · have hw := hw.1 c_3
            refine lv_aload_n hx hb dX2_readFactor_96 rfl (lv_at hl 0 rfl) ?_
            refine lv_iload_n hx hb dX2_readFactor_97 rfl (lv_at hl 1 rfl) ?_
            refine lv_iconst (v := 1) hx hb dX2_readFactor_98 (by decide) ?_
            refine lv_iadd hx hb dX2_readFactor_99 ?_
            refine mw_V (As := [.int (v1 + 1)]) (rest := []) (T := TX2) (N := 4) (n := 1) ⟨hx, hb, hml, hown, hts⟩ (ih.2.2.2 h (v1 + 1) M_2 _ hw) wm_RX2_71 wi_yX2_readEnclosed wv_yX2_readEnclosed wn_RX2 wc_yX2_readEnclosed (by decide) (by constructor <;> (simp only [rgR]; omega)) ⟨rfl, rfl⟩ kh (by decide) (mk2 kh) rfl hSt hTb hP hS rfl hl.1 rfl (Nat.le_of_ble_eq_true rfl) dX2_readFactor_100 ⟨Nat.le_refl 0, Nat.le_refl 0⟩ (fun rr_ M_4 H locs hq hP hS => ?_)
            obtain ⟨r_5, rfl, hw⟩ := hq
            obtain ⟨c_6, hw⟩ := hw
            exact W.zret hx hb hr c_6.narrow (mw_end hP hSt hTb hS ⟨_, rfl, hw⟩) hS.2.2 dX2_readFactor_103
          · have hw := hw.2 c_3
            refine lv_aload_n hx hb dX2_readFactor_86 rfl (lv_at hl 0 rfl) ?_
            refine lv_iload_n hx hb dX2_readFactor_87 rfl (lv_at hl 1 rfl) ?_
            refine lv_iconst (v := 1) hx hb dX2_readFactor_88 (by decide) ?_
            refine lv_iadd hx hb dX2_readFactor_89 ?_
            refine mw_V (As := [.int (v1 + 1)]) (rest := []) (T := TX2) (N := 4) (n := 1) ⟨hx, hb, hml, hown, hts⟩ (ih.2.2.1 h (v1 + 1) M_2 _ hw) wm_RX2_68 wi_yX2_readDenied wv_yX2_readDenied wn_RX2 wc_yX2_readDenied (by decide) (by constructor <;> (simp only [rgR]; omega)) ⟨rfl, rfl⟩ kh (by decide) (mk2 kh) rfl hSt hTb hP hS rfl hl.1 rfl (Nat.le_of_ble_eq_true rfl) dX2_readFactor_90 ⟨Nat.le_refl 0, Nat.le_refl 0⟩ (fun rr_ M_7 H locs hq hP hS => ?_)
            obtain ⟨r_8, rfl, hw⟩ := hq
            refine lv_goto (tgt := 103) hx hb dX2_readFactor_93 (by decide) ?_
            obtain ⟨c_9, hw⟩ := hw
            exact W.zret hx hb hr c_9.narrow (mw_end hP hSt hTb hS ⟨_, rfl, hw⟩) hS.2.2 dX2_readFactor_103
        · have hw := hw.2 c_1
          refine lv_iconst (v := 0) hx hb dX2_readFactor_68 (by decide) ?_
          exact W.zret (v := 0) hx hb hr (by decide) (mw_end hP hSt hTb hS ⟨_, rfl, hw⟩) hS.2.2 dX2_readFactor_69
      refine lv_aload_n hx hb dX2_readFactor_0 rfl (lv_at hl 0 rfl) ?_
      refine mw_V (As := []) (rest := []) (T := TX2) (N := 4) (n := 0) ⟨hx, hb, hml, hown, hts⟩ (so_X2_next l G h M _ hw) wm_RX2_48 wi_yX2_next wv_yX2_next wn_RX2 wc_yX2_next (by decide) (by constructor <;> (simp only [rgR]; omega)) ⟨rfl, rfl⟩ kh (by decide) (mk2 kh) rfl hSt hTb hP hS rfl hl.1 rfl (Nat.le_of_ble_eq_true rfl) dX2_readFactor_1 ⟨Nat.le_refl 0, Nat.le_refl 0⟩ (fun rr_ M_10 H locs hq hP hS => ?_)
      obtain ⟨r_11, rfl, hw⟩ := hq
      refine lv_istore_n (lv' := [(2, .int r_11), (0, .ref (G.1 + h)), (1, .int a1)]) hx hb dX2_readFactor_4 rfl hl (by decide) rfl (fun ls hl => ?_)
      refine lv_iload_n hx hb dX2_readFactor_5 rfl (lv_at hl 0 rfl) ?_
      refine mw_Sx (As := [.int r_11]) (rest := []) (n := 1) ⟨hx, hb, hml, hown, hts⟩ (so_X2_isDigit l G r_11 M_10 _ hw) wm_RX2_59 wt_yX2_isDigit wn_RX2 wc_yX2_isDigit (by decide) (by constructor <;> (simp only [rgR]; omega)) ⟨rfl, rfl⟩ hSt hTb hP hS rfl hl.1 rfl (Nat.le_of_ble_eq_true rfl) dX2_readFactor_6 ⟨Nat.le_refl 0, Nat.le_refl 0⟩ (fun rr_ M_12 H locs hq hP hS => ?_)
      obtain ⟨r_13, rfl, hw⟩ := hq
      refine lv_if_eq (tgt := 18) hx hb dX2_readFactor_9 (by decide) (fun c_14 => ?_) (fun c_14 => ?_)
      · have hw := hw.1 c_14
        refine lv_aload_n hx hb dX2_readFactor_18 rfl (lv_at hl 1 rfl) ?_
        refine lv_iload_n hx hb dX2_readFactor_19 rfl (lv_at hl 0 rfl) ?_
        refine mw_V (As := [.int r_11]) (rest := []) (T := TX2) (N := 4) (n := 1) ⟨hx, hb, hml, hown, hts⟩ (so_X2_nameOf l G h r_11 M_12 _ hw) wm_RX2_65 wi_yX2_nameOf wv_yX2_nameOf wn_RX2 wc_yX2_nameOf (by decide) (by constructor <;> (simp only [rgR]; omega)) ⟨rfl, rfl⟩ kh (by decide) (mk2 kh) rfl hSt hTb hP hS rfl hl.1 rfl (Nat.le_of_ble_eq_true rfl) dX2_readFactor_20 ⟨Nat.le_refl 0, Nat.le_refl 0⟩ (fun rr_ M_15 H locs hq hP hS => ?_)
        obtain ⟨r_16, rfl, hw⟩ := hq
        refine lv_istore_n (lv' := [(3, .int r_16), (2, .int r_11), (0, .ref (G.1 + h)), (1, .int a1)]) hx hb dX2_readFactor_23 rfl hl (by decide) rfl (fun ls hl => ?_)
        refine lv_iload_n hx hb dX2_readFactor_24 rfl (lv_at hl 0 rfl) ?_
        refine lv_if_lt (tgt := 51) hx hb dX2_readFactor_25 (by decide) (fun c_17 => ?_) (fun c_17 => ?_)
        · have hw := hw.1 c_17
          refine lv_iload_n hx hb dX2_readFactor_51 rfl (lv_at hl 1 rfl) ?_
          refine lv_bipush (v := 33) hx hb dX2_readFactor_52 (by decide) ?_
          refine lv_icmp_eq (tgt := 63) hx hb dX2_readFactor_54 (by decide) (fun c_18 => ?_) (fun c_18 => ?_)
          · have hw := hw.1 c_18
            exact J_63 a1 r_11 M_15 _ _ _ hw hP hS (lv_sub hl [2, 3, 1] rfl)
          · have hw := hw.2 c_18
            refine lv_iload_n hx hb dX2_readFactor_57 rfl (lv_at hl 1 rfl) ?_
            refine lv_bipush (v := 40) hx hb dX2_readFactor_58 (by decide) ?_
            refine lv_icmp_ne (tgt := 68) hx hb dX2_readFactor_60 (by decide) (fun c_19 => ?_) (fun c_19 => ?_)
            · have hw := hw.1 c_19
              refine lv_iconst (v := 0) hx hb dX2_readFactor_68 (by decide) ?_
              exact W.zret (v := 0) hx hb hr (by decide) (mw_end hP hSt hTb hS ⟨_, rfl, hw⟩) hS.2.2 dX2_readFactor_69
            · have hw := hw.2 c_19
              exact J_63 a1 r_11 M_15 _ _ _ hw hP hS (lv_sub hl [2, 3, 1] rfl)
        · have hw := hw.2 c_17
          refine lv_aload_n hx hb dX2_readFactor_28 rfl (lv_at hl 2 rfl) ?_
          refine lv_dup hx hb dX2_readFactor_29 rfl ?_
          refine mw_get (ci := 2) (v := .int (M_15 h 3)) (C := RX2) (T := TX2) (N := 4) hx hb ht inX2 hown hSt hP kh (by decide) (mk2 kh) rfl 3 (by decide) (ht _ wf_RX2_31) rfl rfl dX2_readFactor_30 ?_
          refine lv_iconst (v := 1) hx hb dX2_readFactor_33 (by decide) ?_
          refine lv_iadd hx hb dX2_readFactor_34 ?_
          refine mw_put (ci := 2) (v := (M_15 h 3) + 1) (ty := .int) (C := RX2) (T := TX2) (N := 4) hx hb ht inX2 tyX2 tyX2_ok nmX2 hown hSt hP hS kh (by decide) (mk2 kh) rfl 3 (by decide) (ht _ wf_RX2_31) rfl rfl (by decide +kernel) (vp_nar_int _) rfl (Nat.le_of_ble_eq_true rfl) (by rw [mk2 kh]; simp [mu]) dX2_readFactor_35 (fun M_20 H locs eM_20 hP hS => ?_)
          have hw := hw M_20 eM_20
          refine lv_aload_n hx hb dX2_readFactor_38 rfl (lv_at hl 2 rfl) ?_
          refine mw_get (ci := 2) (v := .ref (G.1 + (h + 3))) (C := RX2) (T := TX2) (N := 4) hx hb ht inX2 hown hSt hP kh (by decide) (mk2 kh) rfl 1 (by decide) (ht _ wf_RX2_20) rfl rfl dX2_readFactor_39 ?_
          refine lv_iconst (v := (-1)) hx hb dX2_readFactor_42 (by decide) ?_
          refine lv_iload_n hx hb dX2_readFactor_43 rfl (lv_at hl 0 rfl) ?_
          refine lv_isub hx hb dX2_readFactor_44 ?_
          refine mw_V (As := [.int ((-1) - r_16)]) (rest := []) (T := TX3) (N := 2) (n := 1) ⟨hx, hb, hml, hown, hts⟩ (so_X3_append l G (h + 3) ((-1) - r_16) M_20 _ hw) wm_RX2_56 wi_yX3_append wv_yX3_append wn_RX3 wc_yX3_append (by decide) (by constructor <;> (simp only [rgR]; omega)) ⟨rfl, rfl⟩ (ks2_1 kh) (by decide) (mk3 (ks2_1 kh)) rfl hSt hTb hP hS rfl hl.1 rfl (Nat.le_of_ble_eq_true rfl) dX2_readFactor_45 ⟨Nat.le_refl 0, Nat.le_refl 0⟩ (fun rr_ M_21 H locs hq hP hS => ?_)
          obtain ⟨r_22, rfl, hw⟩ := hq
          refine lv_pop hx hb dX2_readFactor_48 rfl ?_
          refine lv_iconst (v := 1) hx hb dX2_readFactor_49 (by decide) ?_
          exact W.zret (v := 1) hx hb hr (by decide) (mw_end hP hSt hTb hS ⟨_, rfl, hw⟩) hS.2.2 dX2_readFactor_50
      · have hw := hw.2 c_14
        refine lv_aload_n hx hb dX2_readFactor_12 rfl (lv_at hl 1 rfl) ?_
        refine mw_V (As := []) (rest := []) (T := TX2) (N := 4) (n := 0) ⟨hx, hb, hml, hown, hts⟩ (so_X2_readNumber l G h M_12 _ hw) wm_RX2_62 wi_yX2_readNumber wv_yX2_readNumber wn_RX2 wc_yX2_readNumber (by decide) (by constructor <;> (simp only [rgR]; omega)) ⟨rfl, rfl⟩ kh (by decide) (mk2 kh) rfl hSt hTb hP hS rfl hl.1 rfl (Nat.le_of_ble_eq_true rfl) dX2_readFactor_13 ⟨Nat.le_refl 0, Nat.le_refl 0⟩ (fun rr_ M_23 H locs hq hP hS => ?_)
        obtain ⟨rfl, hw⟩ := hq
        refine lv_iconst (v := 1) hx hb dX2_readFactor_16 (by decide) ?_
        exact W.zret (v := 1) hx hb hr (by decide) (mw_end hP hSt hTb hS ⟨_, rfl, hw⟩) hS.2.2 dX2_readFactor_17
    · intro h a1 M Q hw
      have hw : wb_X2_readDenied g0 g1 g2 g3 h a1 M Q := by rw [eg0]; rw [eg1]; rw [eg2]; rw [eg3]; exact hw
      unfold wb_X2_readDenied at hw
      obtain ⟨kh, hw⟩ := hw
      refine ct_of (by decide) (Nat.le_of_ble_eq_true rfl) ?_
      intro p e s m below meth c E_ ls H hl hP hS
      obtain ⟨hx, hb, hml, hown, hts, ht, hr, hlocks, hSt, hTb⟩ := E_
      have hl : lv_has ls 2 [(0, .ref (G.1 + h)), (1, .int a1)] := hl
      refine lv_aload_n hx hb dX2_readDenied_0 rfl (lv_at hl 0 rfl) ?_
      refine lv_iload_n hx hb dX2_readDenied_1 rfl (lv_at hl 1 rfl) ?_
      refine mw_V (As := [.int a1]) (rest := []) (T := TX2) (N := 4) (n := 1) ⟨hx, hb, hml, hown, hts⟩ (ih.2.1 h a1 M _ hw) wm_RX2_44 wi_yX2_readFactor wv_yX2_readFactor wn_RX2 wc_yX2_readFactor (by decide) (by constructor <;> (simp only [rgR]; omega)) ⟨rfl, rfl⟩ kh (by decide) (mk2 kh) rfl hSt hTb hP hS rfl hl.1 rfl (Nat.le_of_ble_eq_true rfl) dX2_readDenied_2 ⟨Nat.le_refl 0, Nat.le_refl 0⟩ (fun rr_ M_1 H locs hq hP hS => ?_)
      obtain ⟨r_2, rfl, hw⟩ := hq
      refine lv_if_ne (tgt := 10) hx hb dX2_readDenied_5 (by decide) (fun c_3 => ?_) (fun c_3 => ?_)
      · have hw := hw.1 c_3
        refine lv_aload_n hx hb dX2_readDenied_10 rfl (lv_at hl 0 rfl) ?_
        refine mw_get (ci := 2) (v := .ref (G.1 + (h + 3))) (C := RX2) (T := TX2) (N := 4) hx hb ht inX2 hown hSt hP kh (by decide) (mk2 kh) rfl 1 (by decide) (ht _ wf_RX2_20) rfl rfl dX2_readDenied_11 ?_
        refine lv_bipush (v := (-33)) hx hb dX2_readDenied_14 (by decide) ?_
        refine mw_V (As := [.int (-33)]) (rest := []) (T := TX3) (N := 2) (n := 1) ⟨hx, hb, hml, hown, hts⟩ (so_X3_append l G (h + 3) (-33) M_1 _ hw) wm_RX2_56 wi_yX3_append wv_yX3_append wn_RX3 wc_yX3_append (by decide) (by constructor <;> (simp only [rgR]; omega)) ⟨rfl, rfl⟩ (ks2_1 kh) (by decide) (mk3 (ks2_1 kh)) rfl hSt hTb hP hS rfl hl.1 rfl (Nat.le_of_ble_eq_true rfl) dX2_readDenied_16 ⟨Nat.le_refl 0, Nat.le_refl 0⟩ (fun rr_ M_4 H locs hq hP hS => ?_)
        obtain ⟨r_5, rfl, hw⟩ := hq
        refine lv_pop hx hb dX2_readDenied_19 rfl ?_
        refine lv_iconst (v := 1) hx hb dX2_readDenied_20 (by decide) ?_
        exact W.zret (v := 1) hx hb hr (by decide) (mw_end hP hSt hTb hS ⟨_, rfl, hw⟩) hS.2.2 dX2_readDenied_21
      · have hw := hw.2 c_3
        refine lv_iconst (v := 0) hx hb dX2_readDenied_8 (by decide) ?_
        exact W.zret (v := 0) hx hb hr (by decide) (mw_end hP hSt hTb hS ⟨_, rfl, hw⟩) hS.2.2 dX2_readDenied_9
    · intro h a1 M Q hw
      have hw : wb_X2_readEnclosed g0 g1 g2 g3 h a1 M Q := by rw [eg0]; rw [eg1]; rw [eg2]; rw [eg3]; exact hw
      unfold wb_X2_readEnclosed at hw
      obtain ⟨kh, hw⟩ := hw
      refine ct_of (by decide) (Nat.le_of_ble_eq_true rfl) ?_
      intro p e s m below meth c E_ ls H hl hP hS
      obtain ⟨hx, hb, hml, hown, hts, ht, hr, hlocks, hSt, hTb⟩ := E_
      have hl : lv_has ls 2 [(0, .ref (G.1 + h)), (1, .int a1)] := hl
      refine lv_aload_n hx hb dX2_readEnclosed_0 rfl (lv_at hl 0 rfl) ?_
      refine lv_iconst (v := 0) hx hb dX2_readEnclosed_1 (by decide) ?_
      refine lv_iload_n hx hb dX2_readEnclosed_2 rfl (lv_at hl 1 rfl) ?_
      refine mw_V (As := [.int 0, .int a1]) (rest := []) (T := TX2) (N := 4) (n := 2) ⟨hx, hb, hml, hown, hts⟩ (ih.1 h 0 a1 M _ hw) wm_RX2_37 wi_yX2_readLevel wv_yX2_readLevel wn_RX2 wc_yX2_readLevel (by decide) (by constructor <;> (simp only [rgR]; omega)) ⟨rfl, rfl⟩ kh (by decide) (mk2 kh) rfl hSt hTb hP hS rfl hl.1 rfl (Nat.le_of_ble_eq_true rfl) dX2_readEnclosed_3 ⟨Nat.le_refl 0, Nat.le_refl 0⟩ (fun rr_ M_1 H locs hq hP hS => ?_)
      obtain ⟨r_2, rfl, hw⟩ := hq
      refine lv_if_eq (tgt := 18) hx hb dX2_readEnclosed_6 (by decide) (fun c_3 => ?_) (fun c_3 => ?_)
      · have hw := hw.1 c_3
        refine lv_iconst (v := 0) hx hb dX2_readEnclosed_18 (by decide) ?_
        exact W.zret (v := 0) hx hb hr (by decide) (mw_end hP hSt hTb hS ⟨_, rfl, hw⟩) hS.2.2 dX2_readEnclosed_19
      · have hw := hw.2 c_3
        refine lv_aload_n hx hb dX2_readEnclosed_9 rfl (lv_at hl 0 rfl) ?_
        refine mw_V (As := []) (rest := []) (T := TX2) (N := 4) (n := 0) ⟨hx, hb, hml, hown, hts⟩ (so_X2_next l G h M_1 _ hw) wm_RX2_48 wi_yX2_next wv_yX2_next wn_RX2 wc_yX2_next (by decide) (by constructor <;> (simp only [rgR]; omega)) ⟨rfl, rfl⟩ kh (by decide) (mk2 kh) rfl hSt hTb hP hS rfl hl.1 rfl (Nat.le_of_ble_eq_true rfl) dX2_readEnclosed_10 ⟨Nat.le_refl 0, Nat.le_refl 0⟩ (fun rr_ M_4 H locs hq hP hS => ?_)
        obtain ⟨r_5, rfl, hw⟩ := hq
        refine lv_bipush (v := 41) hx hb dX2_readEnclosed_13 (by decide) ?_
        refine lv_icmp_eq (tgt := 20) hx hb dX2_readEnclosed_15 (by decide) (fun c_6 => ?_) (fun c_6 => ?_)
        · have hw := hw.1 c_6
          refine lv_aload_n hx hb dX2_readEnclosed_20 rfl (lv_at hl 0 rfl) ?_
          refine lv_dup hx hb dX2_readEnclosed_21 rfl ?_
          refine mw_get (ci := 2) (v := .int (M_4 h 3)) (C := RX2) (T := TX2) (N := 4) hx hb ht inX2 hown hSt hP kh (by decide) (mk2 kh) rfl 3 (by decide) (ht _ wf_RX2_31) rfl rfl dX2_readEnclosed_22 ?_
          refine lv_iconst (v := 1) hx hb dX2_readEnclosed_25 (by decide) ?_
          refine lv_iadd hx hb dX2_readEnclosed_26 ?_
          refine mw_put (ci := 2) (v := (M_4 h 3) + 1) (ty := .int) (C := RX2) (T := TX2) (N := 4) hx hb ht inX2 tyX2 tyX2_ok nmX2 hown hSt hP hS kh (by decide) (mk2 kh) rfl 3 (by decide) (ht _ wf_RX2_31) rfl rfl (by decide +kernel) (vp_nar_int _) rfl (Nat.le_of_ble_eq_true rfl) (by rw [mk2 kh]; simp [mu]) dX2_readEnclosed_27 (fun M_7 H locs eM_7 hP hS => ?_)
          have hw := hw M_7 eM_7
          refine lv_iconst (v := 1) hx hb dX2_readEnclosed_30 (by decide) ?_
          exact W.zret (v := 1) hx hb hr (by decide) (mw_end hP hSt hTb hS ⟨_, rfl, hw⟩) hS.2.2 dX2_readEnclosed_31
        · have hw := hw.2 c_6
          refine lv_iconst (v := 0) hx hb dX2_readEnclosed_18 (by decide) ?_
          exact W.zret (v := 0) hx hb hr (by decide) (mw_end hP hSt hTb hS ⟨_, rfl, hw⟩) hS.2.2 dX2_readEnclosed_19
theorem so_X2_readLevel (l : Launch) (G : Gm) (h : Nat) (a1 : Int32) (a2 : Int32) (M : Mem) (Q : Int32 → Mem → Prop) (hw : wp_X2_readLevel 60 h a1 a2 M Q) : Ct l G yX2_readLevel cX2_readLevel 6 (some .boolean) (rgR 60) [.ref (G.1 + h), .int a1, .int a2] M (Qi Q) := (sg_R l G 60).1 h a1 a2 M Q hw
theorem so_X2_readFactor (l : Launch) (G : Gm) (h : Nat) (a1 : Int32) (M : Mem) (Q : Int32 → Mem → Prop) (hw : wp_X2_readFactor 60 h a1 M Q) : Ct l G yX2_readFactor cX2_readFactor 4 (some .boolean) (rgR 60) [.ref (G.1 + h), .int a1] M (Qi Q) := (sg_R l G 60).2.1 h a1 M Q hw
theorem so_X2_readDenied (l : Launch) (G : Gm) (h : Nat) (a1 : Int32) (M : Mem) (Q : Int32 → Mem → Prop) (hw : wp_X2_readDenied 60 h a1 M Q) : Ct l G yX2_readDenied cX2_readDenied 2 (some .boolean) (rgR 60) [.ref (G.1 + h), .int a1] M (Qi Q) := (sg_R l G 60).2.2.1 h a1 M Q hw
theorem so_X2_readEnclosed (l : Launch) (G : Gm) (h : Nat) (a1 : Int32) (M : Mem) (Q : Int32 → Mem → Prop) (hw : wp_X2_readEnclosed 60 h a1 M Q) : Ct l G yX2_readEnclosed cX2_readEnclosed 2 (some .boolean) (rgR 60) [.ref (G.1 + h), .int a1] M (Qi Q) := (sg_R l G 60).2.2.2 h a1 M Q hw
def wp_X2_read (h : Nat) (a1 : Nat) (a2 : Int32) (M : Mem) (Q : Int32 → Mem → Prop) : Prop :=
  kdT h = 2 ∧ kdT a1 = 3 ∧ (wp_X3_copyFrom (h + 1) a1 M (fun M_1 => ∀ M_2, M_2 = mu M_1 h 2 a2 → ∀ M_3, M_3 = mu M_2 h 3 0 → wp_X3_clear (h + 3) M_3 (fun M_4 => wp_X2_readLevel 60 h 0 0 M_4 (fun r_6 M_5 => (r_6 = 0 → Q 0 M_5) ∧ (¬ r_6 = 0 → (¬ (M_5 h 3) = (M_5 (h + 1) 1) → Q 0 M_5) ∧ ((M_5 h 3) = (M_5 (h + 1) 1) → Q 1 M_5))))))
set_option maxHeartbeats 4000000 in
set_option maxRecDepth 100000 in
theorem so_X2_read (l : Launch) (G : Gm) (h : Nat) (a1 : Nat) (a2 : Int32) (M : Mem) (Q : Int32 → Mem → Prop) (hw : wp_X2_read h a1 a2 M Q) : Ct l G yX2_read cX2_read 3 (some .boolean) ({ frames := 64, cells := 0, slots := 0, locals := 1588 } : Room) [.ref (G.1 + h), .ref (G.1 + a1), .int a2] M (Qi Q) := by
  unfold wp_X2_read at hw
  obtain ⟨kh, ka1, hw⟩ := hw
  refine ct_of (by decide) (Nat.le_of_ble_eq_true rfl) ?_
  intro p e s m below meth c E_ ls H hl hP hS
  obtain ⟨hx, hb, hml, hown, hts, ht, hr, hlocks, hSt, hTb⟩ := E_
  have hl : lv_has ls 3 [(0, .ref (G.1 + h)), (1, .ref (G.1 + a1)), (2, .int a2)] := hl
  refine lv_aload_n hx hb dX2_read_0 rfl (lv_at hl 0 rfl) ?_
  refine mw_get (ci := 2) (v := .ref (G.1 + (h + 1))) (C := RX2) (T := TX2) (N := 4) hx hb ht inX2 hown hSt hP kh (by decide) (mk2 kh) rfl 0 (by decide) (ht _ wf_RX2_14) rfl rfl dX2_read_1 ?_
  refine lv_aload_n hx hb dX2_read_4 rfl (lv_at hl 1 rfl) ?_
  refine mw_V (As := [.ref (G.1 + a1)]) (rest := []) (T := TX3) (N := 2) (n := 1) ⟨hx, hb, hml, hown, hts⟩ (so_X3_copyFrom l G (h + 1) a1 M _ hw) wm_RX2_23 wi_yX3_copyFrom wv_yX3_copyFrom wn_RX3 wc_yX3_copyFrom (by decide) ⟨Nat.le_of_ble_eq_true rfl, Nat.le_of_ble_eq_true rfl⟩ ⟨rfl, rfl⟩ (ks2_0 kh) (by decide) (mk3 (ks2_0 kh)) rfl hSt hTb hP hS rfl hl.1 rfl (Nat.le_of_ble_eq_true rfl) dX2_read_5 ⟨Nat.le_refl 0, Nat.le_refl 0⟩ (fun rr_ M_1 H locs hq hP hS => ?_)
  obtain ⟨rfl, hw⟩ := hq
  refine lv_aload_n hx hb dX2_read_8 rfl (lv_at hl 0 rfl) ?_
  refine lv_iload_n hx hb dX2_read_9 rfl (lv_at hl 2 rfl) ?_
  refine mw_put (ci := 2) (v := a2) (ty := .int) (C := RX2) (T := TX2) (N := 4) hx hb ht inX2 tyX2 tyX2_ok nmX2 hown hSt hP hS kh (by decide) (mk2 kh) rfl 2 (by decide) (ht _ wf_RX2_27) rfl rfl (by decide +kernel) (vp_nar_int _) rfl (Nat.le_of_ble_eq_true rfl) (by rw [mk2 kh]; simp [mu]) dX2_read_10 (fun M_2 H locs eM_2 hP hS => ?_)
  have hw := hw M_2 eM_2
  refine lv_aload_n hx hb dX2_read_13 rfl (lv_at hl 0 rfl) ?_
  refine lv_iconst (v := 0) hx hb dX2_read_14 (by decide) ?_
  refine mw_put (ci := 2) (v := 0) (ty := .int) (C := RX2) (T := TX2) (N := 4) hx hb ht inX2 tyX2 tyX2_ok nmX2 hown hSt hP hS kh (by decide) (mk2 kh) rfl 3 (by decide) (ht _ wf_RX2_31) rfl rfl (by decide +kernel) (vp_nar_int _) rfl (Nat.le_of_ble_eq_true rfl) (by rw [mk2 kh]; simp [mu]) dX2_read_15 (fun M_3 H locs eM_3 hP hS => ?_)
  have hw := hw M_3 eM_3
  refine lv_aload_n hx hb dX2_read_18 rfl (lv_at hl 0 rfl) ?_
  refine mw_get (ci := 2) (v := .ref (G.1 + (h + 3))) (C := RX2) (T := TX2) (N := 4) hx hb ht inX2 hown hSt hP kh (by decide) (mk2 kh) rfl 1 (by decide) (ht _ wf_RX2_20) rfl rfl dX2_read_19 ?_
  refine mw_V (As := []) (rest := []) (T := TX3) (N := 2) (n := 0) ⟨hx, hb, hml, hown, hts⟩ (so_X3_clear l G (h + 3) M_3 _ hw) wm_RX2_34 wi_yX3_clear wv_yX3_clear wn_RX3 wc_yX3_clear (by decide) ⟨Nat.le_of_ble_eq_true rfl, Nat.le_of_ble_eq_true rfl⟩ ⟨rfl, rfl⟩ (ks2_1 kh) (by decide) (mk3 (ks2_1 kh)) rfl hSt hTb hP hS rfl hl.1 rfl (Nat.le_of_ble_eq_true rfl) dX2_read_22 ⟨Nat.le_refl 0, Nat.le_refl 0⟩ (fun rr_ M_4 H locs hq hP hS => ?_)
  obtain ⟨rfl, hw⟩ := hq
  refine lv_aload_n hx hb dX2_read_25 rfl (lv_at hl 0 rfl) ?_
  refine lv_iconst (v := 0) hx hb dX2_read_26 (by decide) ?_
  refine lv_iconst (v := 0) hx hb dX2_read_27 (by decide) ?_
  refine mw_V (As := [.int 0, .int 0]) (rest := []) (T := TX2) (N := 4) (n := 2) ⟨hx, hb, hml, hown, hts⟩ (so_X2_readLevel l G h 0 0 M_4 _ hw) wm_RX2_37 wi_yX2_readLevel wv_yX2_readLevel wn_RX2 wc_yX2_readLevel (by decide) ⟨Nat.le_of_ble_eq_true rfl, Nat.le_of_ble_eq_true rfl⟩ ⟨rfl, rfl⟩ kh (by decide) (mk2 kh) rfl hSt hTb hP hS rfl hl.1 rfl (Nat.le_of_ble_eq_true rfl) dX2_read_28 ⟨Nat.le_refl 0, Nat.le_refl 0⟩ (fun rr_ M_5 H locs hq hP hS => ?_)
  obtain ⟨r_6, rfl, hw⟩ := hq
  refine lv_if_eq (tgt := 52) hx hb dX2_read_31 (by decide) (fun c_7 => ?_) (fun c_7 => ?_)
  · have hw := hw.1 c_7
    refine lv_iconst (v := 0) hx hb dX2_read_52 (by decide) ?_
    exact W.zret (v := 0) hx hb hr (by decide) (mw_end hP hSt hTb hS ⟨_, rfl, hw⟩) hS.2.2 dX2_read_53
  · have hw := hw.2 c_7
    refine lv_aload_n hx hb dX2_read_34 rfl (lv_at hl 0 rfl) ?_
    refine mw_get (ci := 2) (v := .int (M_5 h 3)) (C := RX2) (T := TX2) (N := 4) hx hb ht inX2 hown hSt hP kh (by decide) (mk2 kh) rfl 3 (by decide) (ht _ wf_RX2_31) rfl rfl dX2_read_35 ?_
    refine lv_aload_n hx hb dX2_read_38 rfl (lv_at hl 0 rfl) ?_
    refine mw_get (ci := 2) (v := .ref (G.1 + (h + 1))) (C := RX2) (T := TX2) (N := 4) hx hb ht inX2 hown hSt hP kh (by decide) (mk2 kh) rfl 0 (by decide) (ht _ wf_RX2_14) rfl rfl dX2_read_39 ?_
    refine mw_get (ci := 3) (v := .int (M_5 (h + 1) 1)) (C := RX3) (T := TX3) (N := 2) hx hb ht inX3 hown hSt hP (ks2_0 kh) (by decide) (mk3 (ks2_0 kh)) rfl 1 (by decide) (ht _ wf_RX2_41) rfl rfl dX2_read_42 ?_
    refine lv_icmp_ne (tgt := 52) hx hb dX2_read_45 (by decide) (fun c_8 => ?_) (fun c_8 => ?_)
    · have hw := hw.1 c_8
      refine lv_iconst (v := 0) hx hb dX2_read_52 (by decide) ?_
      exact W.zret (v := 0) hx hb hr (by decide) (mw_end hP hSt hTb hS ⟨_, rfl, hw⟩) hS.2.2 dX2_read_53
    · have hw := hw.2 c_8
      refine lv_iconst (v := 1) hx hb dX2_read_48 (by decide) ?_
      refine lv_goto (tgt := 53) hx hb dX2_read_49 (by decide) ?_
      exact W.zret (v := 1) hx hb hr (by decide) (mw_end hP hSt hTb hS ⟨_, rfl, hw⟩) hS.2.2 dX2_read_53
def B_X7_bodyFrom_4 (Q : Int32 → Mem → Prop) (v1 : Int32) (K4 : Int32 → Int32 → Mem → Prop) (v2 : Int32) (v3 : Int32) (M : Mem) : Prop :=
  (7 ≤ v3 → Q 0 M) ∧ (¬ 7 ≤ v3 → wp_X9_isWithin v2 6 M (fun r_3 M_2 => (r_3 = 0 → Q 0 M_2) ∧ (¬ r_3 = 0 → wp_X9_isWithin v1 3 M_2 (fun r_6 M_5 => (r_6 = 0 → Q 0 M_5) ∧ (¬ r_6 = 0 → vp_in ((v2 * 4) + v1) 28 ∧ (((BO ((v2 * 4) + v1).toNatClampNeg) = 0 → vp_in v2 7 ∧ (∀ x_11, x_11 = KA v2.toNatClampNeg → ∀ x_12 : Int32, x_12 = v3 + 1 → K4 x_11 x_12 M_5)) ∧ (¬ (BO ((v2 * 4) + v1).toNatClampNeg) = 0 → vp_in ((v2 * 4) + v1) 28 ∧ (Q (BO ((v2 * 4) + v1).toNatClampNeg) M_5))))))))
def l_X7_bodyFrom_4 (Q : Int32 → Mem → Prop) (v1 : Int32) : Nat → Int32 → Int32 → Mem → Prop
  | 0 => fun _ _ _ => False
  | n + 1 => B_X7_bodyFrom_4 Q v1 (l_X7_bodyFrom_4 Q v1 n)
def wp_X7_bodyFrom (a0 : Int32) (a1 : Int32) (M : Mem) (Q : Int32 → Mem → Prop) : Prop :=
  ∃ n, l_X7_bodyFrom_4 Q a1 n a0 0 M
set_option maxHeartbeats 4000000 in
set_option maxRecDepth 100000 in
theorem so_X7_bodyFrom (l : Launch) (G : Gm) (a0 : Int32) (a1 : Int32) (M : Mem) (Q : Int32 → Mem → Prop) (hw : wp_X7_bodyFrom a0 a1 M Q) : Ct l G yX7_bodyFrom cX7_bodyFrom 4 (some .int) ({ frames := 1, cells := 0, slots := 0, locals := 21 } : Room) [.int a0, .int a1] M (Qi Q) := by
  unfold wp_X7_bodyFrom at hw
  refine ct_of (by decide) (Nat.le_of_ble_eq_true rfl) ?_
  intro p e s m below meth c E_ ls H hl hP hS
  obtain ⟨hx, hb, hml, hown, hts, ht, hr, hlocks, hSt, hTb⟩ := E_
  have hl : lv_has ls 4 [(0, .int a0), (1, .int a1)] := hl
  have L_4 : ∀ (v1 : Int32), ∀ (n4 : Nat) (v2 : Int32) (v3 : Int32) (M : Mem) (H : Heap) (locs : List Loc) (ls : Array Slot), l_X7_bodyFrom_4 Q v1 n4 v2 v3 M → va_P G.2.1 clsA (wl G M) H → va_S (inW G) s.heap H locs → lv_has ls 4 [(1, .int v1), (2, .int v2), (3, .int v3)] → W p l e ({ frames := 1, cells := 0, slots := 0, locals := 21 } : Room) s m ([.int a0, .int a1] : List Value).toArray below meth c H locs 0 0 (MQ below (Pq G (Qi Q)) ([.int a0, .int a1] : List Value).toArray s 0 0 (inW G)) (F0 m 4 ls []) := by
    intro v1  n4
    induction n4 with
    | zero => intro v2 v3 M H locs ls  hw hP hS hl; exact False.elim hw
    | succ n4 ih4 =>
      intro v2 v3 M H locs ls  hw hP hS hl
      have hw : B_X7_bodyFrom_4 Q v1 (l_X7_bodyFrom_4 Q v1 n4) v2 v3 M := hw
      unfold B_X7_bodyFrom_4 at hw
      refine lv_iload_n hx hb dX7_bodyFrom_4 rfl (lv_at hl 2 rfl) ?_
      refine lv_bipush (v := 7) hx hb dX7_bodyFrom_5 (by decide) ?_
      refine lv_icmp_ge (tgt := 61) hx hb dX7_bodyFrom_7 (by decide) (fun c_1 => ?_) (fun c_1 => ?_)
      · have hw := hw.1 c_1
        refine lv_iconst (v := 0) hx hb dX7_bodyFrom_61 (by decide) ?_
        exact W.iret hx hb hr (mw_end hP hSt hTb hS ⟨_, rfl, hw⟩) hS.2.2 dX7_bodyFrom_62
      · have hw := hw.2 c_1
        refine lv_iload_n hx hb dX7_bodyFrom_10 rfl (lv_at hl 1 rfl) ?_
        refine lv_bipush (v := 6) hx hb dX7_bodyFrom_11 (by decide) ?_
        refine mw_SN (As := [.int v2, .int 6]) (rest := []) (n := 2) (host := "RaddleMarks") ⟨hx, hb, hml, hown, hts⟩ (so_X9_isWithin l G v2 6 M _ hw) (by decide +kernel) wt_yX9_isWithin wn_RX9 wc_yX9_isWithin (by decide) ⟨Nat.le_of_ble_eq_true rfl, Nat.le_of_ble_eq_true rfl⟩ ⟨rfl, rfl⟩ hSt hTb hP hS rfl hl.1 rfl (Nat.le_of_ble_eq_true rfl) dX7_bodyFrom_13 ⟨Nat.le_refl 0, Nat.le_refl 0⟩ (fun rr_ M_2 H locs hq hP hS => ?_)
        obtain ⟨r_3, rfl, hw⟩ := hq
        refine lv_if_eq (tgt := 61) hx hb dX7_bodyFrom_16 (by decide) (fun c_4 => ?_) (fun c_4 => ?_)
        · have hw := hw.1 c_4
          refine lv_iconst (v := 0) hx hb dX7_bodyFrom_61 (by decide) ?_
          exact W.iret hx hb hr (mw_end hP hSt hTb hS ⟨_, rfl, hw⟩) hS.2.2 dX7_bodyFrom_62
        · have hw := hw.2 c_4
          refine lv_iload_n hx hb dX7_bodyFrom_19 rfl (lv_at hl 0 rfl) ?_
          refine lv_iconst (v := 3) hx hb dX7_bodyFrom_20 (by decide) ?_
          refine mw_SN (As := [.int v1, .int 3]) (rest := []) (n := 2) (host := "RaddleMarks") ⟨hx, hb, hml, hown, hts⟩ (so_X9_isWithin l G v1 3 M_2 _ hw) (by decide +kernel) wt_yX9_isWithin wn_RX9 wc_yX9_isWithin (by decide) ⟨Nat.le_of_ble_eq_true rfl, Nat.le_of_ble_eq_true rfl⟩ ⟨rfl, rfl⟩ hSt hTb hP hS rfl hl.1 rfl (Nat.le_of_ble_eq_true rfl) dX7_bodyFrom_21 ⟨Nat.le_refl 0, Nat.le_refl 0⟩ (fun rr_ M_5 H locs hq hP hS => ?_)
          obtain ⟨r_6, rfl, hw⟩ := hq
          refine lv_if_eq (tgt := 61) hx hb dX7_bodyFrom_24 (by decide) (fun c_7 => ?_) (fun c_7 => ?_)
          · have hw := hw.1 c_7
            refine lv_iconst (v := 0) hx hb dX7_bodyFrom_61 (by decide) ?_
            exact W.iret hx hb hr (mw_end hP hSt hTb hS ⟨_, rfl, hw⟩) hS.2.2 dX7_bodyFrom_62
          · have hw := hw.2 c_7
            refine va_getsN (v := .ref G.2.2.2.2.1) hx hb hTb.2.1.1 hS hown (va_Nw.use rfl (hSt.2 (.fieldLinkNest RX7 57 "RaddleMarks" "BODIES" "[I" "RaddleMarks") (by decide +kernel))) (fun _ h9 => h9) dX7_bodyFrom_27 ?_
            refine lv_iload_n hx hb dX7_bodyFrom_30 rfl (lv_at hl 1 rfl) ?_
            refine lv_iconst (v := 4) hx hb dX7_bodyFrom_31 (by decide) ?_
            refine lv_imul hx hb dX7_bodyFrom_32 ?_
            refine lv_iload_n hx hb dX7_bodyFrom_33 rfl (lv_at hl 0 rfl) ?_
            refine lv_iadd hx hb dX7_bodyFrom_34 ?_
            obtain ⟨c_8, hw⟩ := hw
            refine va_ti (v := .int (BO ((v2 * 4) + v1).toNatClampNeg)) hx hb hTb.2.1.2 hS c_8 rfl dX7_bodyFrom_35 ?_
            refine lv_if_eq (tgt := 49) hx hb dX7_bodyFrom_36 (by decide) (fun c_9 => ?_) (fun c_9 => ?_)
            · have hw := hw.1 c_9
              refine va_getsN (v := .ref G.2.2.2.1) hx hb hTb.1.1 hS hown (va_Nw.use rfl (hSt.2 (.fieldLinkNest RX7 41 "RaddleMarks" "KIND_ABOVE" "[I" "RaddleMarks") (by decide +kernel))) (fun _ h9 => h9) dX7_bodyFrom_49 ?_
              refine lv_iload_n hx hb dX7_bodyFrom_52 rfl (lv_at hl 1 rfl) ?_
              obtain ⟨c_10, hw⟩ := hw
              refine va_ti (v := .int (KA v2.toNatClampNeg)) hx hb hTb.1.2 hS c_10 rfl dX7_bodyFrom_53 ?_
              refine lv_topi (fun x_11 ex_11 => ?_)
              have hw := hw x_11 ex_11
              refine lv_istore_n (lv' := [(2, .int x_11), (1, .int v1), (3, .int v3)]) hx hb dX7_bodyFrom_54 rfl hl (by decide) rfl (fun ls hl => ?_)
              obtain ⟨x_12, ex_12⟩ : ∃ z : Int32, z = v3 + 1 := ⟨_, rfl⟩
              have hw := hw x_12 ex_12
              refine lv_iinc (v := x_12) (lv' := [(3, .int x_12), (2, .int x_11), (1, .int v1)]) hx hb dX7_bodyFrom_55 hl (k := 2) rfl (by rw [ex_12]; rfl) (by decide) rfl (fun ls hl => ?_)
              refine lv_goto (tgt := 4) hx hb dX7_bodyFrom_58 (by decide) ?_
              exact ih4 x_11 x_12 M_5 _ _ _ hw hP hS (lv_sub hl [2, 1, 0] rfl)
            · have hw := hw.2 c_9
              refine va_getsN (v := .ref G.2.2.2.2.1) hx hb hTb.2.1.1 hS hown (va_Nw.use rfl (hSt.2 (.fieldLinkNest RX7 57 "RaddleMarks" "BODIES" "[I" "RaddleMarks") (by decide +kernel))) (fun _ h9 => h9) dX7_bodyFrom_39 ?_
              refine lv_iload_n hx hb dX7_bodyFrom_42 rfl (lv_at hl 1 rfl) ?_
              refine lv_iconst (v := 4) hx hb dX7_bodyFrom_43 (by decide) ?_
              refine lv_imul hx hb dX7_bodyFrom_44 ?_
              refine lv_iload_n hx hb dX7_bodyFrom_45 rfl (lv_at hl 0 rfl) ?_
              refine lv_iadd hx hb dX7_bodyFrom_46 ?_
              obtain ⟨c_13, hw⟩ := hw
              refine va_ti (v := .int (BO ((v2 * 4) + v1).toNatClampNeg)) hx hb hTb.2.1.2 hS c_13 rfl dX7_bodyFrom_47 ?_
              exact W.iret hx hb hr (mw_end hP hSt hTb hS ⟨_, rfl, hw⟩) hS.2.2 dX7_bodyFrom_48
  refine lv_iload_n hx hb dX7_bodyFrom_0 rfl (lv_at hl 0 rfl) ?_
  refine lv_istore_n (lv' := [(2, .int a0), (0, .int a0), (1, .int a1)]) hx hb dX7_bodyFrom_1 rfl hl (by decide) rfl (fun ls hl => ?_)
  refine lv_iconst (v := 0) hx hb dX7_bodyFrom_2 (by decide) ?_
  refine lv_istore_n (lv' := [(3, .int 0), (2, .int a0), (0, .int a0), (1, .int a1)]) hx hb dX7_bodyFrom_3 rfl hl (by decide) rfl (fun ls hl => ?_)
  obtain ⟨n_, hw⟩ := hw
  exact L_4 a1 n_ a0 0 M _ _ _ hw hP hS (lv_sub hl [3, 1, 0] rfl)
def wb_X7_speak (g0 : Nat → Int32 → Int32 → Int32 → Int32 → Mem → (Int32 → Mem → Prop) → Prop) (g1 : Nat → Int32 → Int32 → Int32 → Mem → (Int32 → Mem → Prop) → Prop) (g2 : Nat → Int32 → Int32 → Int32 → Mem → (Int32 → Mem → Prop) → Prop) (g3 : Nat → Int32 → Int32 → Int32 → Int32 → Mem → (Int32 → Mem → Prop) → Prop) (h : Nat) (a1 : Int32) (a2 : Int32) (a3 : Int32) (a4 : Int32) (M : Mem) (Q : Int32 → Mem → Prop) : Prop :=
  kdT h = 7 ∧ ((a4 < 40 → wp_X7_bodyFrom a1 a2 M (fun r_3 M_2 => wp_X3_append (h + 1) r_3 M_2 (fun r_5 M_4 => g1 h r_3 a3 (a4 + 1) M_4 (fun r_7 M_6 => Q r_7 M_6)))) ∧ (¬ a4 < 40 → Q 0 M))
def wb_X7_workOut (g0 : Nat → Int32 → Int32 → Int32 → Int32 → Mem → (Int32 → Mem → Prop) → Prop) (g1 : Nat → Int32 → Int32 → Int32 → Mem → (Int32 → Mem → Prop) → Prop) (g2 : Nat → Int32 → Int32 → Int32 → Mem → (Int32 → Mem → Prop) → Prop) (g3 : Nat → Int32 → Int32 → Int32 → Int32 → Mem → (Int32 → Mem → Prop) → Prop) (h : Nat) (a1 : Int32) (a2 : Int32) (a3 : Int32) (M : Mem) (Q : Int32 → Mem → Prop) : Prop :=
  kdT h = 7 ∧ ((a1 = 10 → Q (a2 + (M h 2)) M) ∧ (a1 = 11 → g2 h 0 a2 a3 M (fun r_4 M_3 => Q (r_4 * 2) M_3)) ∧ (a1 = 12 → Q (a2 - (M h 3)) M) ∧ (a1 = 13 → g2 h 1 a2 a3 M (fun r_8 M_7 => g2 h 2 a2 a3 M_7 (fun r_10 M_9 => Q (r_8 ^^^ r_10) M_9))) ∧ (a1 = 20 → g3 h 1 0 a2 a3 M (fun r_13 M_12 => Q (r_13 * 3) M_12)) ∧ (a1 = 30 → g3 h 2 1 a2 a3 M (fun r_16 M_15 => g2 h 2 1 a3 M_15 (fun r_18 M_17 => Q (r_16 - r_18) M_17))) ∧ (a1 = 40 → g3 h 3 2 a2 a3 M (fun r_21 M_20 => Q (-r_21) M_20)) ∧ (a1 = 50 → g3 h 4 3 a2 a3 M (fun r_24 M_23 => g2 h 0 2 a3 M_23 (fun r_26 M_25 => Q (r_24 - r_26) M_25))) ∧ (a1 = 60 → g3 h 5 1 (a2 + 1) a3 M (fun r_29 M_28 => Q r_29 M_28)) ∧ (a1 = 70 → g3 h 6 2 a2 a3 M (fun r_32 M_31 => Q (r_32 ^^^ (M_31 h 2)) M_31)) ∧ (a1 = 71 → g2 h 1 a2 a3 M (fun r_35 M_34 => g3 h 6 3 a2 a3 M_34 (fun r_37 M_36 => Q (r_35 - r_37) M_36))) ∧ (¬ a1 = 10 → ¬ a1 = 11 → ¬ a1 = 12 → ¬ a1 = 13 → ¬ a1 = 20 → ¬ a1 = 30 → ¬ a1 = 40 → ¬ a1 = 50 → ¬ a1 = 60 → ¬ a1 = 70 → ¬ a1 = 71 → Q 0 M))
def wb_X7_own (g0 : Nat → Int32 → Int32 → Int32 → Int32 → Mem → (Int32 → Mem → Prop) → Prop) (g1 : Nat → Int32 → Int32 → Int32 → Mem → (Int32 → Mem → Prop) → Prop) (g2 : Nat → Int32 → Int32 → Int32 → Mem → (Int32 → Mem → Prop) → Prop) (g3 : Nat → Int32 → Int32 → Int32 → Int32 → Mem → (Int32 → Mem → Prop) → Prop) (h : Nat) (a1 : Int32) (a2 : Int32) (a3 : Int32) (M : Mem) (Q : Int32 → Mem → Prop) : Prop :=
  kdT h = 7 ∧ (g0 h (M h 1) a1 a2 a3 M (fun r_2 M_1 => Q r_2 M_1))
def b_X7_above_19 (g0 : Nat → Int32 → Int32 → Int32 → Int32 → Mem → (Int32 → Mem → Prop) → Prop) (g1 : Nat → Int32 → Int32 → Int32 → Mem → (Int32 → Mem → Prop) → Prop) (g2 : Nat → Int32 → Int32 → Int32 → Mem → (Int32 → Mem → Prop) → Prop) (g3 : Nat → Int32 → Int32 → Int32 → Int32 → Mem → (Int32 → Mem → Prop) → Prop) (h : Nat) (Q : Int32 → Mem → Prop) (v2 : Int32) (v3 : Int32) (v4 : Int32) (s0 : Nat) (s1 : Int32) (M : Mem) : Prop :=
  g0 s0 s1 v2 v3 v4 M (fun r_2 M_1 => Q r_2 M_1)
def wb_X7_above (g0 : Nat → Int32 → Int32 → Int32 → Int32 → Mem → (Int32 → Mem → Prop) → Prop) (g1 : Nat → Int32 → Int32 → Int32 → Mem → (Int32 → Mem → Prop) → Prop) (g2 : Nat → Int32 → Int32 → Int32 → Mem → (Int32 → Mem → Prop) → Prop) (g3 : Nat → Int32 → Int32 → Int32 → Int32 → Mem → (Int32 → Mem → Prop) → Prop) (h : Nat) (a1 : Int32) (a2 : Int32) (a3 : Int32) (a4 : Int32) (M : Mem) (Q : Int32 → Mem → Prop) : Prop :=
  kdT h = 7 ∧ (wp_X9_isWithin a1 6 M (fun r_4 M_3 => (r_4 = 0 → b_X7_above_19 g0 g1 g2 g3 h Q a2 a3 a4 h 0 M_3) ∧ (¬ r_4 = 0 → vp_in a1 7 ∧ (b_X7_above_19 g0 g1 g2 g3 h Q a2 a3 a4 h (KA a1.toNatClampNeg) M_3))))
def rgV (d : Nat) : Room := { frames := 2 + d, cells := 0, slots := 0, locals := 44 + d * 25 }
def wg_V : Nat → (Nat → Int32 → Int32 → Int32 → Int32 → Mem → (Int32 → Mem → Prop) → Prop) × (Nat → Int32 → Int32 → Int32 → Mem → (Int32 → Mem → Prop) → Prop) × (Nat → Int32 → Int32 → Int32 → Mem → (Int32 → Mem → Prop) → Prop) × (Nat → Int32 → Int32 → Int32 → Int32 → Mem → (Int32 → Mem → Prop) → Prop)
  | 0 => (fun _ _ _ _ _ _ _ => False, fun _ _ _ _ _ _ => False, fun _ _ _ _ _ _ => False, fun _ _ _ _ _ _ _ => False)
  | d + 1 => (wb_X7_speak ((wg_V d).1) ((wg_V d).2.1) ((wg_V d).2.2.1) ((wg_V d).2.2.2), wb_X7_workOut ((wg_V d).1) ((wg_V d).2.1) ((wg_V d).2.2.1) ((wg_V d).2.2.2), wb_X7_own ((wg_V d).1) ((wg_V d).2.1) ((wg_V d).2.2.1) ((wg_V d).2.2.2), wb_X7_above ((wg_V d).1) ((wg_V d).2.1) ((wg_V d).2.2.1) ((wg_V d).2.2.2))
def wp_X7_speak (d : Nat) : Nat → Int32 → Int32 → Int32 → Int32 → Mem → (Int32 → Mem → Prop) → Prop := (wg_V d).1
def wp_X7_workOut (d : Nat) : Nat → Int32 → Int32 → Int32 → Mem → (Int32 → Mem → Prop) → Prop := (wg_V d).2.1
def wp_X7_own (d : Nat) : Nat → Int32 → Int32 → Int32 → Mem → (Int32 → Mem → Prop) → Prop := (wg_V d).2.2.1
def wp_X7_above (d : Nat) : Nat → Int32 → Int32 → Int32 → Int32 → Mem → (Int32 → Mem → Prop) → Prop := (wg_V d).2.2.2
set_option maxHeartbeats 8000000 in
set_option maxRecDepth 100000 in
theorem sg_V (l : Launch) (G : Gm) : ∀ d : Nat, (∀ (h : Nat) (a1 : Int32) (a2 : Int32) (a3 : Int32) (a4 : Int32) (M : Mem) (Q : Int32 → Mem → Prop), (wg_V d).1 h a1 a2 a3 a4 M Q → Ct l G yX7_speak cX7_speak 6 (some .int) (rgV d) [.ref (G.1 + h), .int a1, .int a2, .int a3, .int a4] M (Qi Q)) ∧ (∀ (h : Nat) (a1 : Int32) (a2 : Int32) (a3 : Int32) (M : Mem) (Q : Int32 → Mem → Prop), (wg_V d).2.1 h a1 a2 a3 M Q → Ct l G yX7_workOut cX7_workOut 4 (some .int) (rgV d) [.ref (G.1 + h), .int a1, .int a2, .int a3] M (Qi Q)) ∧ (∀ (h : Nat) (a1 : Int32) (a2 : Int32) (a3 : Int32) (M : Mem) (Q : Int32 → Mem → Prop), (wg_V d).2.2.1 h a1 a2 a3 M Q → Ct l G yX7_own cX7_own 4 (some .int) (rgV d) [.ref (G.1 + h), .int a1, .int a2, .int a3] M (Qi Q)) ∧ (∀ (h : Nat) (a1 : Int32) (a2 : Int32) (a3 : Int32) (a4 : Int32) (M : Mem) (Q : Int32 → Mem → Prop), (wg_V d).2.2.2 h a1 a2 a3 a4 M Q → Ct l G yX7_above cX7_above 5 (some .int) (rgV d) [.ref (G.1 + h), .int a1, .int a2, .int a3, .int a4] M (Qi Q)) := by
  intro d
  induction d with
  | zero => refine ⟨fun _ _ _ _ _ _ _ hw_ => False.elim hw_, fun _ _ _ _ _ _ hw_ => False.elim hw_, fun _ _ _ _ _ _ hw_ => False.elim hw_, fun _ _ _ _ _ _ _ hw_ => False.elim hw_⟩
  | succ d ih =>
    obtain ⟨g0, eg0⟩ : ∃ z, z = (wg_V d).1 := ⟨_, rfl⟩
    obtain ⟨g1, eg1⟩ : ∃ z, z = (wg_V d).2.1 := ⟨_, rfl⟩
    obtain ⟨g2, eg2⟩ : ∃ z, z = (wg_V d).2.2.1 := ⟨_, rfl⟩
    obtain ⟨g3, eg3⟩ : ∃ z, z = (wg_V d).2.2.2 := ⟨_, rfl⟩
    rw [← eg0] at ih
    rw [← eg1] at ih
    rw [← eg2] at ih
    rw [← eg3] at ih
    refine ⟨?_, ?_, ?_, ?_⟩
    · intro h a1 a2 a3 a4 M Q hw
      have hw : wb_X7_speak g0 g1 g2 g3 h a1 a2 a3 a4 M Q := by rw [eg0]; rw [eg1]; rw [eg2]; rw [eg3]; exact hw
      unfold wb_X7_speak at hw
      obtain ⟨kh, hw⟩ := hw
      refine ct_of (by decide) (Nat.le_of_ble_eq_true rfl) ?_
      intro p e s m below meth c E_ ls H hl hP hS
      obtain ⟨hx, hb, hml, hown, hts, ht, hr, hlocks, hSt, hTb⟩ := E_
      have hl : lv_has ls 6 [(0, .ref (G.1 + h)), (1, .int a1), (2, .int a2), (3, .int a3), (4, .int a4)] := hl
      refine lv_iload hx hb dX7_speak_0 (lv_at hl 4 rfl) ?_
      refine lv_bipush (v := 40) hx hb dX7_speak_2 (by decide) ?_
      refine lv_icmp_lt (tgt := 9) hx hb dX7_speak_4 (by decide) (fun c_1 => ?_) (fun c_1 => ?_)
      · have hw := hw.1 c_1
        refine lv_iload_n hx hb dX7_speak_9 rfl (lv_at hl 1 rfl) ?_
        refine lv_iload_n hx hb dX7_speak_10 rfl (lv_at hl 2 rfl) ?_
        refine mw_Sx (As := [.int a1, .int a2]) (rest := []) (n := 2) ⟨hx, hb, hml, hown, hts⟩ (so_X7_bodyFrom l G a1 a2 M _ hw) wm_RX7_45 wt_yX7_bodyFrom wn_RX7 wc_yX7_bodyFrom (by decide) (by constructor <;> (simp only [rgV]; omega)) ⟨rfl, rfl⟩ hSt hTb hP hS rfl hl.1 rfl (Nat.le_of_ble_eq_true rfl) dX7_speak_11 ⟨Nat.le_refl 0, Nat.le_refl 0⟩ (fun rr_ M_2 H locs hq hP hS => ?_)
        obtain ⟨r_3, rfl, hw⟩ := hq
        refine lv_istore (lv' := [(5, .int r_3), (0, .ref (G.1 + h)), (1, .int a1), (2, .int a2), (3, .int a3), (4, .int a4)]) hx hb dX7_speak_14 hl (by decide) rfl (fun ls hl => ?_)
        refine lv_aload_n hx hb dX7_speak_16 rfl (lv_at hl 1 rfl) ?_
        refine mw_get (ci := 7) (v := .ref (G.1 + (h + 1))) (C := RX7) (T := TX7) (N := 4) hx hb ht inX7 hown hSt hP kh (by decide) (mk7 kh) rfl 0 (by decide) (ht _ wf_RX7_14) rfl rfl dX7_speak_17 ?_
        refine lv_iload hx hb dX7_speak_20 (lv_at hl 0 rfl) ?_
        refine mw_V (As := [.int r_3]) (rest := []) (T := TX3) (N := 2) (n := 1) ⟨hx, hb, hml, hown, hts⟩ (so_X3_append l G (h + 1) r_3 M_2 _ hw) wm_RX7_49 wi_yX3_append wv_yX3_append wn_RX3 wc_yX3_append (by decide) (by constructor <;> (simp only [rgV]; omega)) ⟨rfl, rfl⟩ (ks7_0 kh) (by decide) (mk3 (ks7_0 kh)) rfl hSt hTb hP hS rfl hl.1 rfl (Nat.le_of_ble_eq_true rfl) dX7_speak_22 ⟨Nat.le_refl 0, Nat.le_refl 0⟩ (fun rr_ M_4 H locs hq hP hS => ?_)
        obtain ⟨r_5, rfl, hw⟩ := hq
        refine lv_pop hx hb dX7_speak_25 rfl ?_
        refine lv_aload_n hx hb dX7_speak_26 rfl (lv_at hl 1 rfl) ?_
        refine lv_iload hx hb dX7_speak_27 (lv_at hl 0 rfl) ?_
        refine lv_iload_n hx hb dX7_speak_29 rfl (lv_at hl 4 rfl) ?_
        refine lv_iload hx hb dX7_speak_30 (lv_at hl 5 rfl) ?_
        refine lv_iconst (v := 1) hx hb dX7_speak_32 (by decide) ?_
        refine lv_iadd hx hb dX7_speak_33 ?_
        refine mw_V (As := [.int r_3, .int a3, .int (a4 + 1)]) (rest := []) (T := TX7) (N := 4) (n := 3) ⟨hx, hb, hml, hown, hts⟩ (ih.2.1 h r_3 a3 (a4 + 1) M_4 _ hw) wm_RX7_53 wi_yX7_workOut wv_yX7_workOut wn_RX7 wc_yX7_workOut (by decide) (by constructor <;> (simp only [rgV]; omega)) ⟨rfl, rfl⟩ kh (by decide) (mk7 kh) rfl hSt hTb hP hS rfl hl.1 rfl (Nat.le_of_ble_eq_true rfl) dX7_speak_34 ⟨Nat.le_refl 0, Nat.le_refl 0⟩ (fun rr_ M_6 H locs hq hP hS => ?_)
        obtain ⟨r_7, rfl, hw⟩ := hq
        exact W.iret hx hb hr (mw_end hP hSt hTb hS ⟨_, rfl, hw⟩) hS.2.2 dX7_speak_37
      · have hw := hw.2 c_1
        refine lv_iconst (v := 0) hx hb dX7_speak_7 (by decide) ?_
        exact W.iret hx hb hr (mw_end hP hSt hTb hS ⟨_, rfl, hw⟩) hS.2.2 dX7_speak_8
    · intro h a1 a2 a3 M Q hw
      have hw : wb_X7_workOut g0 g1 g2 g3 h a1 a2 a3 M Q := by rw [eg0]; rw [eg1]; rw [eg2]; rw [eg3]; exact hw
      unfold wb_X7_workOut at hw
      obtain ⟨kh, hw⟩ := hw
      refine ct_of (by decide) (Nat.le_of_ble_eq_true rfl) ?_
      intro p e s m below meth c E_ ls H hl hP hS
      obtain ⟨hx, hb, hml, hown, hts, ht, hr, hlocks, hSt, hTb⟩ := E_
      have hl : lv_has ls 4 [(0, .ref (G.1 + h)), (1, .int a1), (2, .int a2), (3, .int a3)] := hl
      refine lv_iload_n hx hb dX7_workOut_0 rfl (lv_at hl 1 rfl) ?_
      by_cases c_1 : a1 = 10
      · have hw := hw.1 c_1
        refine mw_lcase (tgt := 100) (off := 99) hx hb dX7_workOut_1 c_1 (by decide) (by decide) ?_
        refine lv_iload_n hx hb dX7_workOut_100 rfl (lv_at hl 2 rfl) ?_
        refine lv_aload_n hx hb dX7_workOut_101 rfl (lv_at hl 0 rfl) ?_
        refine mw_get (ci := 7) (v := .int (M h 2)) (C := RX7) (T := TX7) (N := 4) hx hb ht inX7 hown hSt hP kh (by decide) (mk7 kh) rfl 2 (by decide) (ht _ wf_RX7_24) rfl rfl dX7_workOut_102 ?_
        refine lv_iadd hx hb dX7_workOut_105 ?_
        exact W.iret hx hb hr (mw_end hP hSt hTb hS ⟨_, rfl, hw⟩) hS.2.2 dX7_workOut_106
      by_cases c_2 : a1 = 11
      · have hw := hw.2.1 c_2
        refine mw_lcase (tgt := 107) (off := 106) hx hb dX7_workOut_1 c_2 (by decide) (by decide) ?_
        refine lv_aload_n hx hb dX7_workOut_107 rfl (lv_at hl 0 rfl) ?_
        refine lv_iconst (v := 0) hx hb dX7_workOut_108 (by decide) ?_
        refine lv_iload_n hx hb dX7_workOut_109 rfl (lv_at hl 2 rfl) ?_
        refine lv_iload_n hx hb dX7_workOut_110 rfl (lv_at hl 3 rfl) ?_
        refine mw_V (As := [.int 0, .int a2, .int a3]) (rest := []) (T := TX7) (N := 4) (n := 3) ⟨hx, hb, hml, hown, hts⟩ (ih.2.2.1 h 0 a2 a3 M _ hw) wm_RX7_60 wi_yX7_own wv_yX7_own wn_RX7 wc_yX7_own (by decide) (by constructor <;> (simp only [rgV]; omega)) ⟨rfl, rfl⟩ kh (by decide) (mk7 kh) rfl hSt hTb hP hS rfl hl.1 rfl (Nat.le_of_ble_eq_true rfl) dX7_workOut_111 ⟨Nat.le_refl 0, Nat.le_refl 0⟩ (fun rr_ M_3 H locs hq hP hS => ?_)
        obtain ⟨r_4, rfl, hw⟩ := hq
        refine lv_iconst (v := 2) hx hb dX7_workOut_114 (by decide) ?_
        refine lv_imul hx hb dX7_workOut_115 ?_
        exact W.iret hx hb hr (mw_end hP hSt hTb hS ⟨_, rfl, hw⟩) hS.2.2 dX7_workOut_116
      by_cases c_5 : a1 = 12
      · have hw := hw.2.2.1 c_5
        refine mw_lcase (tgt := 117) (off := 116) hx hb dX7_workOut_1 c_5 (by decide) (by decide) ?_
        refine lv_iload_n hx hb dX7_workOut_117 rfl (lv_at hl 2 rfl) ?_
        refine lv_aload_n hx hb dX7_workOut_118 rfl (lv_at hl 0 rfl) ?_
        refine mw_get (ci := 7) (v := .int (M h 3)) (C := RX7) (T := TX7) (N := 4) hx hb ht inX7 hown hSt hP kh (by decide) (mk7 kh) rfl 3 (by decide) (ht _ wf_RX7_27) rfl rfl dX7_workOut_119 ?_
        refine lv_isub hx hb dX7_workOut_122 ?_
        exact W.iret hx hb hr (mw_end hP hSt hTb hS ⟨_, rfl, hw⟩) hS.2.2 dX7_workOut_123
      by_cases c_6 : a1 = 13
      · have hw := hw.2.2.2.1 c_6
        refine mw_lcase (tgt := 124) (off := 123) hx hb dX7_workOut_1 c_6 (by decide) (by decide) ?_
        refine lv_aload_n hx hb dX7_workOut_124 rfl (lv_at hl 0 rfl) ?_
        refine lv_iconst (v := 1) hx hb dX7_workOut_125 (by decide) ?_
        refine lv_iload_n hx hb dX7_workOut_126 rfl (lv_at hl 2 rfl) ?_
        refine lv_iload_n hx hb dX7_workOut_127 rfl (lv_at hl 3 rfl) ?_
        refine mw_V (As := [.int 1, .int a2, .int a3]) (rest := []) (T := TX7) (N := 4) (n := 3) ⟨hx, hb, hml, hown, hts⟩ (ih.2.2.1 h 1 a2 a3 M _ hw) wm_RX7_60 wi_yX7_own wv_yX7_own wn_RX7 wc_yX7_own (by decide) (by constructor <;> (simp only [rgV]; omega)) ⟨rfl, rfl⟩ kh (by decide) (mk7 kh) rfl hSt hTb hP hS rfl hl.1 rfl (Nat.le_of_ble_eq_true rfl) dX7_workOut_128 ⟨Nat.le_refl 0, Nat.le_refl 0⟩ (fun rr_ M_7 H locs hq hP hS => ?_)
        obtain ⟨r_8, rfl, hw⟩ := hq
        refine lv_aload_n hx hb dX7_workOut_131 rfl (lv_at hl 0 rfl) ?_
        refine lv_iconst (v := 2) hx hb dX7_workOut_132 (by decide) ?_
        refine lv_iload_n hx hb dX7_workOut_133 rfl (lv_at hl 2 rfl) ?_
        refine lv_iload_n hx hb dX7_workOut_134 rfl (lv_at hl 3 rfl) ?_
        refine mw_V (As := [.int 2, .int a2, .int a3]) (rest := [.int r_8]) (T := TX7) (N := 4) (n := 3) ⟨hx, hb, hml, hown, hts⟩ (ih.2.2.1 h 2 a2 a3 M_7 _ hw) wm_RX7_60 wi_yX7_own wv_yX7_own wn_RX7 wc_yX7_own (by decide) (by constructor <;> (simp only [rgV]; omega)) ⟨rfl, rfl⟩ kh (by decide) (mk7 kh) rfl hSt hTb hP hS rfl hl.1 rfl (Nat.le_of_ble_eq_true rfl) dX7_workOut_135 ⟨Nat.le_refl 0, Nat.le_refl 0⟩ (fun rr_ M_9 H locs hq hP hS => ?_)
        obtain ⟨r_10, rfl, hw⟩ := hq
        refine lv_ixor hx hb dX7_workOut_138 ?_
        exact W.iret hx hb hr (mw_end hP hSt hTb hS ⟨_, rfl, hw⟩) hS.2.2 dX7_workOut_139
      by_cases c_11 : a1 = 20
      · have hw := hw.2.2.2.2.1 c_11
        refine mw_lcase (tgt := 140) (off := 139) hx hb dX7_workOut_1 c_11 (by decide) (by decide) ?_
        refine lv_aload_n hx hb dX7_workOut_140 rfl (lv_at hl 0 rfl) ?_
        refine lv_iconst (v := 1) hx hb dX7_workOut_141 (by decide) ?_
        refine lv_iconst (v := 0) hx hb dX7_workOut_142 (by decide) ?_
        refine lv_iload_n hx hb dX7_workOut_143 rfl (lv_at hl 2 rfl) ?_
        refine lv_iload_n hx hb dX7_workOut_144 rfl (lv_at hl 3 rfl) ?_
        refine mw_V (As := [.int 1, .int 0, .int a2, .int a3]) (rest := []) (T := TX7) (N := 4) (n := 4) ⟨hx, hb, hml, hown, hts⟩ (ih.2.2.2 h 1 0 a2 a3 M _ hw) wm_RX7_63 wi_yX7_above wv_yX7_above wn_RX7 wc_yX7_above (by decide) (by constructor <;> (simp only [rgV]; omega)) ⟨rfl, rfl⟩ kh (by decide) (mk7 kh) rfl hSt hTb hP hS rfl hl.1 rfl (Nat.le_of_ble_eq_true rfl) dX7_workOut_145 ⟨Nat.le_refl 0, Nat.le_refl 0⟩ (fun rr_ M_12 H locs hq hP hS => ?_)
        obtain ⟨r_13, rfl, hw⟩ := hq
        refine lv_iconst (v := 3) hx hb dX7_workOut_148 (by decide) ?_
        refine lv_imul hx hb dX7_workOut_149 ?_
        exact W.iret hx hb hr (mw_end hP hSt hTb hS ⟨_, rfl, hw⟩) hS.2.2 dX7_workOut_150
      by_cases c_14 : a1 = 30
      · have hw := hw.2.2.2.2.2.1 c_14
        refine mw_lcase (tgt := 151) (off := 150) hx hb dX7_workOut_1 c_14 (by decide) (by decide) ?_
        refine lv_aload_n hx hb dX7_workOut_151 rfl (lv_at hl 0 rfl) ?_
        refine lv_iconst (v := 2) hx hb dX7_workOut_152 (by decide) ?_
        refine lv_iconst (v := 1) hx hb dX7_workOut_153 (by decide) ?_
        refine lv_iload_n hx hb dX7_workOut_154 rfl (lv_at hl 2 rfl) ?_
        refine lv_iload_n hx hb dX7_workOut_155 rfl (lv_at hl 3 rfl) ?_
        refine mw_V (As := [.int 2, .int 1, .int a2, .int a3]) (rest := []) (T := TX7) (N := 4) (n := 4) ⟨hx, hb, hml, hown, hts⟩ (ih.2.2.2 h 2 1 a2 a3 M _ hw) wm_RX7_63 wi_yX7_above wv_yX7_above wn_RX7 wc_yX7_above (by decide) (by constructor <;> (simp only [rgV]; omega)) ⟨rfl, rfl⟩ kh (by decide) (mk7 kh) rfl hSt hTb hP hS rfl hl.1 rfl (Nat.le_of_ble_eq_true rfl) dX7_workOut_156 ⟨Nat.le_refl 0, Nat.le_refl 0⟩ (fun rr_ M_15 H locs hq hP hS => ?_)
        obtain ⟨r_16, rfl, hw⟩ := hq
        refine lv_aload_n hx hb dX7_workOut_159 rfl (lv_at hl 0 rfl) ?_
        refine lv_iconst (v := 2) hx hb dX7_workOut_160 (by decide) ?_
        refine lv_iconst (v := 1) hx hb dX7_workOut_161 (by decide) ?_
        refine lv_iload_n hx hb dX7_workOut_162 rfl (lv_at hl 3 rfl) ?_
        refine mw_V (As := [.int 2, .int 1, .int a3]) (rest := [.int r_16]) (T := TX7) (N := 4) (n := 3) ⟨hx, hb, hml, hown, hts⟩ (ih.2.2.1 h 2 1 a3 M_15 _ hw) wm_RX7_60 wi_yX7_own wv_yX7_own wn_RX7 wc_yX7_own (by decide) (by constructor <;> (simp only [rgV]; omega)) ⟨rfl, rfl⟩ kh (by decide) (mk7 kh) rfl hSt hTb hP hS rfl hl.1 rfl (Nat.le_of_ble_eq_true rfl) dX7_workOut_163 ⟨Nat.le_refl 0, Nat.le_refl 0⟩ (fun rr_ M_17 H locs hq hP hS => ?_)
        obtain ⟨r_18, rfl, hw⟩ := hq
        refine lv_isub hx hb dX7_workOut_166 ?_
        exact W.iret hx hb hr (mw_end hP hSt hTb hS ⟨_, rfl, hw⟩) hS.2.2 dX7_workOut_167
      by_cases c_19 : a1 = 40
      · have hw := hw.2.2.2.2.2.2.1 c_19
        refine mw_lcase (tgt := 168) (off := 167) hx hb dX7_workOut_1 c_19 (by decide) (by decide) ?_
        refine lv_aload_n hx hb dX7_workOut_168 rfl (lv_at hl 0 rfl) ?_
        refine lv_iconst (v := 3) hx hb dX7_workOut_169 (by decide) ?_
        refine lv_iconst (v := 2) hx hb dX7_workOut_170 (by decide) ?_
        refine lv_iload_n hx hb dX7_workOut_171 rfl (lv_at hl 2 rfl) ?_
        refine lv_iload_n hx hb dX7_workOut_172 rfl (lv_at hl 3 rfl) ?_
        refine mw_V (As := [.int 3, .int 2, .int a2, .int a3]) (rest := []) (T := TX7) (N := 4) (n := 4) ⟨hx, hb, hml, hown, hts⟩ (ih.2.2.2 h 3 2 a2 a3 M _ hw) wm_RX7_63 wi_yX7_above wv_yX7_above wn_RX7 wc_yX7_above (by decide) (by constructor <;> (simp only [rgV]; omega)) ⟨rfl, rfl⟩ kh (by decide) (mk7 kh) rfl hSt hTb hP hS rfl hl.1 rfl (Nat.le_of_ble_eq_true rfl) dX7_workOut_173 ⟨Nat.le_refl 0, Nat.le_refl 0⟩ (fun rr_ M_20 H locs hq hP hS => ?_)
        obtain ⟨r_21, rfl, hw⟩ := hq
        refine lv_ineg hx hb dX7_workOut_176 ?_
        exact W.iret hx hb hr (mw_end hP hSt hTb hS ⟨_, rfl, hw⟩) hS.2.2 dX7_workOut_177
      by_cases c_22 : a1 = 50
      · have hw := hw.2.2.2.2.2.2.2.1 c_22
        refine mw_lcase (tgt := 178) (off := 177) hx hb dX7_workOut_1 c_22 (by decide) (by decide) ?_
        refine lv_aload_n hx hb dX7_workOut_178 rfl (lv_at hl 0 rfl) ?_
        refine lv_iconst (v := 4) hx hb dX7_workOut_179 (by decide) ?_
        refine lv_iconst (v := 3) hx hb dX7_workOut_180 (by decide) ?_
        refine lv_iload_n hx hb dX7_workOut_181 rfl (lv_at hl 2 rfl) ?_
        refine lv_iload_n hx hb dX7_workOut_182 rfl (lv_at hl 3 rfl) ?_
        refine mw_V (As := [.int 4, .int 3, .int a2, .int a3]) (rest := []) (T := TX7) (N := 4) (n := 4) ⟨hx, hb, hml, hown, hts⟩ (ih.2.2.2 h 4 3 a2 a3 M _ hw) wm_RX7_63 wi_yX7_above wv_yX7_above wn_RX7 wc_yX7_above (by decide) (by constructor <;> (simp only [rgV]; omega)) ⟨rfl, rfl⟩ kh (by decide) (mk7 kh) rfl hSt hTb hP hS rfl hl.1 rfl (Nat.le_of_ble_eq_true rfl) dX7_workOut_183 ⟨Nat.le_refl 0, Nat.le_refl 0⟩ (fun rr_ M_23 H locs hq hP hS => ?_)
        obtain ⟨r_24, rfl, hw⟩ := hq
        refine lv_aload_n hx hb dX7_workOut_186 rfl (lv_at hl 0 rfl) ?_
        refine lv_iconst (v := 0) hx hb dX7_workOut_187 (by decide) ?_
        refine lv_iconst (v := 2) hx hb dX7_workOut_188 (by decide) ?_
        refine lv_iload_n hx hb dX7_workOut_189 rfl (lv_at hl 3 rfl) ?_
        refine mw_V (As := [.int 0, .int 2, .int a3]) (rest := [.int r_24]) (T := TX7) (N := 4) (n := 3) ⟨hx, hb, hml, hown, hts⟩ (ih.2.2.1 h 0 2 a3 M_23 _ hw) wm_RX7_60 wi_yX7_own wv_yX7_own wn_RX7 wc_yX7_own (by decide) (by constructor <;> (simp only [rgV]; omega)) ⟨rfl, rfl⟩ kh (by decide) (mk7 kh) rfl hSt hTb hP hS rfl hl.1 rfl (Nat.le_of_ble_eq_true rfl) dX7_workOut_190 ⟨Nat.le_refl 0, Nat.le_refl 0⟩ (fun rr_ M_25 H locs hq hP hS => ?_)
        obtain ⟨r_26, rfl, hw⟩ := hq
        refine lv_isub hx hb dX7_workOut_193 ?_
        exact W.iret hx hb hr (mw_end hP hSt hTb hS ⟨_, rfl, hw⟩) hS.2.2 dX7_workOut_194
      by_cases c_27 : a1 = 60
      · have hw := hw.2.2.2.2.2.2.2.2.1 c_27
        refine mw_lcase (tgt := 195) (off := 194) hx hb dX7_workOut_1 c_27 (by decide) (by decide) ?_
        refine lv_aload_n hx hb dX7_workOut_195 rfl (lv_at hl 0 rfl) ?_
        refine lv_iconst (v := 5) hx hb dX7_workOut_196 (by decide) ?_
        refine lv_iconst (v := 1) hx hb dX7_workOut_197 (by decide) ?_
        refine lv_iload_n hx hb dX7_workOut_198 rfl (lv_at hl 2 rfl) ?_
        refine lv_iconst (v := 1) hx hb dX7_workOut_199 (by decide) ?_
        refine lv_iadd hx hb dX7_workOut_200 ?_
        refine lv_iload_n hx hb dX7_workOut_201 rfl (lv_at hl 3 rfl) ?_
        refine mw_V (As := [.int 5, .int 1, .int (a2 + 1), .int a3]) (rest := []) (T := TX7) (N := 4) (n := 4) ⟨hx, hb, hml, hown, hts⟩ (ih.2.2.2 h 5 1 (a2 + 1) a3 M _ hw) wm_RX7_63 wi_yX7_above wv_yX7_above wn_RX7 wc_yX7_above (by decide) (by constructor <;> (simp only [rgV]; omega)) ⟨rfl, rfl⟩ kh (by decide) (mk7 kh) rfl hSt hTb hP hS rfl hl.1 rfl (Nat.le_of_ble_eq_true rfl) dX7_workOut_202 ⟨Nat.le_refl 0, Nat.le_refl 0⟩ (fun rr_ M_28 H locs hq hP hS => ?_)
        obtain ⟨r_29, rfl, hw⟩ := hq
        exact W.iret hx hb hr (mw_end hP hSt hTb hS ⟨_, rfl, hw⟩) hS.2.2 dX7_workOut_205
      by_cases c_30 : a1 = 70
      · have hw := hw.2.2.2.2.2.2.2.2.2.1 c_30
        refine mw_lcase (tgt := 206) (off := 205) hx hb dX7_workOut_1 c_30 (by decide) (by decide) ?_
        refine lv_aload_n hx hb dX7_workOut_206 rfl (lv_at hl 0 rfl) ?_
        refine lv_bipush (v := 6) hx hb dX7_workOut_207 (by decide) ?_
        refine lv_iconst (v := 2) hx hb dX7_workOut_209 (by decide) ?_
        refine lv_iload_n hx hb dX7_workOut_210 rfl (lv_at hl 2 rfl) ?_
        refine lv_iload_n hx hb dX7_workOut_211 rfl (lv_at hl 3 rfl) ?_
        refine mw_V (As := [.int 6, .int 2, .int a2, .int a3]) (rest := []) (T := TX7) (N := 4) (n := 4) ⟨hx, hb, hml, hown, hts⟩ (ih.2.2.2 h 6 2 a2 a3 M _ hw) wm_RX7_63 wi_yX7_above wv_yX7_above wn_RX7 wc_yX7_above (by decide) (by constructor <;> (simp only [rgV]; omega)) ⟨rfl, rfl⟩ kh (by decide) (mk7 kh) rfl hSt hTb hP hS rfl hl.1 rfl (Nat.le_of_ble_eq_true rfl) dX7_workOut_212 ⟨Nat.le_refl 0, Nat.le_refl 0⟩ (fun rr_ M_31 H locs hq hP hS => ?_)
        obtain ⟨r_32, rfl, hw⟩ := hq
        refine lv_aload_n hx hb dX7_workOut_215 rfl (lv_at hl 0 rfl) ?_
        refine mw_get (ci := 7) (v := .int (M_31 h 2)) (C := RX7) (T := TX7) (N := 4) hx hb ht inX7 hown hSt hP kh (by decide) (mk7 kh) rfl 2 (by decide) (ht _ wf_RX7_24) rfl rfl dX7_workOut_216 ?_
        refine lv_ixor hx hb dX7_workOut_219 ?_
        exact W.iret hx hb hr (mw_end hP hSt hTb hS ⟨_, rfl, hw⟩) hS.2.2 dX7_workOut_220
      by_cases c_33 : a1 = 71
      · have hw := hw.2.2.2.2.2.2.2.2.2.2.1 c_33
        refine mw_lcase (tgt := 221) (off := 220) hx hb dX7_workOut_1 c_33 (by decide) (by decide) ?_
        refine lv_aload_n hx hb dX7_workOut_221 rfl (lv_at hl 0 rfl) ?_
        refine lv_iconst (v := 1) hx hb dX7_workOut_222 (by decide) ?_
        refine lv_iload_n hx hb dX7_workOut_223 rfl (lv_at hl 2 rfl) ?_
        refine lv_iload_n hx hb dX7_workOut_224 rfl (lv_at hl 3 rfl) ?_
        refine mw_V (As := [.int 1, .int a2, .int a3]) (rest := []) (T := TX7) (N := 4) (n := 3) ⟨hx, hb, hml, hown, hts⟩ (ih.2.2.1 h 1 a2 a3 M _ hw) wm_RX7_60 wi_yX7_own wv_yX7_own wn_RX7 wc_yX7_own (by decide) (by constructor <;> (simp only [rgV]; omega)) ⟨rfl, rfl⟩ kh (by decide) (mk7 kh) rfl hSt hTb hP hS rfl hl.1 rfl (Nat.le_of_ble_eq_true rfl) dX7_workOut_225 ⟨Nat.le_refl 0, Nat.le_refl 0⟩ (fun rr_ M_34 H locs hq hP hS => ?_)
        obtain ⟨r_35, rfl, hw⟩ := hq
        refine lv_aload_n hx hb dX7_workOut_228 rfl (lv_at hl 0 rfl) ?_
        refine lv_bipush (v := 6) hx hb dX7_workOut_229 (by decide) ?_
        refine lv_iconst (v := 3) hx hb dX7_workOut_231 (by decide) ?_
        refine lv_iload_n hx hb dX7_workOut_232 rfl (lv_at hl 2 rfl) ?_
        refine lv_iload_n hx hb dX7_workOut_233 rfl (lv_at hl 3 rfl) ?_
        refine mw_V (As := [.int 6, .int 3, .int a2, .int a3]) (rest := [.int r_35]) (T := TX7) (N := 4) (n := 4) ⟨hx, hb, hml, hown, hts⟩ (ih.2.2.2 h 6 3 a2 a3 M_34 _ hw) wm_RX7_63 wi_yX7_above wv_yX7_above wn_RX7 wc_yX7_above (by decide) (by constructor <;> (simp only [rgV]; omega)) ⟨rfl, rfl⟩ kh (by decide) (mk7 kh) rfl hSt hTb hP hS rfl hl.1 rfl (Nat.le_of_ble_eq_true rfl) dX7_workOut_234 ⟨Nat.le_refl 0, Nat.le_refl 0⟩ (fun rr_ M_36 H locs hq hP hS => ?_)
        obtain ⟨r_37, rfl, hw⟩ := hq
        refine lv_isub hx hb dX7_workOut_237 ?_
        exact W.iret hx hb hr (mw_end hP hSt hTb hS ⟨_, rfl, hw⟩) hS.2.2 dX7_workOut_238
      have hw := hw.2.2.2.2.2.2.2.2.2.2.2 c_1 c_2 c_5 c_6 c_11 c_14 c_19 c_22 c_27 c_30 c_33
      refine mw_ldef (keys := [10, 11, 12, 13, 20, 30, 40, 50, 60, 70, 71]) (tgt := 239) hx hb dX7_workOut_1 (List.forall_mem_cons.mpr ⟨c_1, (List.forall_mem_cons.mpr ⟨c_2, (List.forall_mem_cons.mpr ⟨c_5, (List.forall_mem_cons.mpr ⟨c_6, (List.forall_mem_cons.mpr ⟨c_11, (List.forall_mem_cons.mpr ⟨c_14, (List.forall_mem_cons.mpr ⟨c_19, (List.forall_mem_cons.mpr ⟨c_22, (List.forall_mem_cons.mpr ⟨c_27, (List.forall_mem_cons.mpr ⟨c_30, (List.forall_mem_cons.mpr ⟨c_33, (fun _ h_ => absurd h_ List.not_mem_nil)⟩)⟩)⟩)⟩)⟩)⟩)⟩)⟩)⟩)⟩)⟩) (by decide) (by decide) (by decide) ?_
      refine lv_iconst (v := 0) hx hb dX7_workOut_239 (by decide) ?_
      exact W.iret hx hb hr (mw_end hP hSt hTb hS ⟨_, rfl, hw⟩) hS.2.2 dX7_workOut_240
    · intro h a1 a2 a3 M Q hw
      have hw : wb_X7_own g0 g1 g2 g3 h a1 a2 a3 M Q := by rw [eg0]; rw [eg1]; rw [eg2]; rw [eg3]; exact hw
      unfold wb_X7_own at hw
      obtain ⟨kh, hw⟩ := hw
      refine ct_of (by decide) (Nat.le_of_ble_eq_true rfl) ?_
      intro p e s m below meth c E_ ls H hl hP hS
      obtain ⟨hx, hb, hml, hown, hts, ht, hr, hlocks, hSt, hTb⟩ := E_
      have hl : lv_has ls 4 [(0, .ref (G.1 + h)), (1, .int a1), (2, .int a2), (3, .int a3)] := hl
      refine lv_aload_n hx hb dX7_own_0 rfl (lv_at hl 0 rfl) ?_
      refine lv_aload_n hx hb dX7_own_1 rfl (lv_at hl 0 rfl) ?_
      refine mw_get (ci := 7) (v := .int (M h 1)) (C := RX7) (T := TX7) (N := 4) hx hb ht inX7 hown hSt hP kh (by decide) (mk7 kh) rfl 1 (by decide) (ht _ wf_RX7_20) rfl rfl dX7_own_2 ?_
      refine lv_iload_n hx hb dX7_own_5 rfl (lv_at hl 1 rfl) ?_
      refine lv_iload_n hx hb dX7_own_6 rfl (lv_at hl 2 rfl) ?_
      refine lv_iload_n hx hb dX7_own_7 rfl (lv_at hl 3 rfl) ?_
      refine mw_V (As := [.int (M h 1), .int a1, .int a2, .int a3]) (rest := []) (T := TX7) (N := 4) (n := 4) ⟨hx, hb, hml, hown, hts⟩ (ih.1 h (M h 1) a1 a2 a3 M _ hw) wm_RX7_33 wi_yX7_speak wv_yX7_speak wn_RX7 wc_yX7_speak (by decide) (by constructor <;> (simp only [rgV]; omega)) ⟨rfl, rfl⟩ kh (by decide) (mk7 kh) rfl hSt hTb hP hS rfl hl.1 rfl (Nat.le_of_ble_eq_true rfl) dX7_own_8 ⟨Nat.le_refl 0, Nat.le_refl 0⟩ (fun rr_ M_1 H locs hq hP hS => ?_)
      obtain ⟨r_2, rfl, hw⟩ := hq
      exact W.iret hx hb hr (mw_end hP hSt hTb hS ⟨_, rfl, hw⟩) hS.2.2 dX7_own_11
    · intro h a1 a2 a3 a4 M Q hw
      have hw : wb_X7_above g0 g1 g2 g3 h a1 a2 a3 a4 M Q := by rw [eg0]; rw [eg1]; rw [eg2]; rw [eg3]; exact hw
      unfold wb_X7_above at hw
      obtain ⟨kh, hw⟩ := hw
      refine ct_of (by decide) (Nat.le_of_ble_eq_true rfl) ?_
      intro p e s m below meth c E_ ls H hl hP hS
      obtain ⟨hx, hb, hml, hown, hts, ht, hr, hlocks, hSt, hTb⟩ := E_
      have hl : lv_has ls 5 [(0, .ref (G.1 + h)), (1, .int a1), (2, .int a2), (3, .int a3), (4, .int a4)] := hl
      have J_19 : ∀ (v2 : Int32) (v3 : Int32) (v4 : Int32) (s0 : Nat) (s1 : Int32) (M : Mem) (H : Heap) (locs : List Loc) (ls : Array Slot), kdT s0 = 7 → b_X7_above_19 g0 g1 g2 g3 h Q v2 v3 v4 s0 s1 M → va_P G.2.1 clsA (wl G M) H → va_S (inW G) s.heap H locs → lv_has ls 5 [(0, .ref (G.1 + h)), (2, .int v2), (3, .int v3), (4, .int v4)] → W p l e (rgV (d + 1)) s m ([.ref (G.1 + h), .int a1, .int a2, .int a3, .int a4] : List Value).toArray below meth c H locs 0 0 (MQ below (Pq G (Qi Q)) ([.ref (G.1 + h), .int a1, .int a2, .int a3, .int a4] : List Value).toArray s 0 0 (inW G)) (F0 m 19 ls [.int s1, .ref (G.1 + s0)]) := by
        intro v2 v3 v4 s0 s1 M H locs ls ks0 hw hP hS hl
        unfold b_X7_above_19 at hw
        refine lv_iload_n hx hb dX7_above_19 rfl (lv_at hl 1 rfl) ?_
        refine lv_iload_n hx hb dX7_above_20 rfl (lv_at hl 2 rfl) ?_
        refine lv_iload hx hb dX7_above_21 (lv_at hl 3 rfl) ?_
        refine mw_V (As := [.int s1, .int v2, .int v3, .int v4]) (rest := []) (T := TX7) (N := 4) (n := 4) ⟨hx, hb, hml, hown, hts⟩ (ih.1 s0 s1 v2 v3 v4 M _ hw) wm_RX7_33 wi_yX7_speak wv_yX7_speak wn_RX7 wc_yX7_speak (by decide) (by constructor <;> (simp only [rgV]; omega)) ⟨rfl, rfl⟩ ks0 (by decide) (mk7 ks0) rfl hSt hTb hP hS rfl hl.1 rfl (Nat.le_of_ble_eq_true rfl) dX7_above_23 ⟨Nat.le_refl 0, Nat.le_refl 0⟩ (fun rr_ M_1 H locs hq hP hS => ?_)
        obtain ⟨r_2, rfl, hw⟩ := hq
        exact W.iret hx hb hr (mw_end hP hSt hTb hS ⟨_, rfl, hw⟩) hS.2.2 dX7_above_26
      refine lv_aload_n hx hb dX7_above_0 rfl (lv_at hl 0 rfl) ?_
      refine lv_iload_n hx hb dX7_above_1 rfl (lv_at hl 1 rfl) ?_
      refine lv_bipush (v := 6) hx hb dX7_above_2 (by decide) ?_
      refine mw_SN (As := [.int a1, .int 6]) (rest := [.ref (G.1 + h)]) (n := 2) (host := "RaddleMarks") ⟨hx, hb, hml, hown, hts⟩ (so_X9_isWithin l G a1 6 M _ hw) (by decide +kernel) wt_yX9_isWithin wn_RX9 wc_yX9_isWithin (by decide) (by constructor <;> (simp only [rgV]; omega)) ⟨rfl, rfl⟩ hSt hTb hP hS rfl hl.1 rfl (Nat.le_of_ble_eq_true rfl) dX7_above_4 ⟨Nat.le_refl 0, Nat.le_refl 0⟩ (fun rr_ M_3 H locs hq hP hS => ?_)
      obtain ⟨r_4, rfl, hw⟩ := hq
      refine lv_if_eq (tgt := 18) hx hb dX7_above_7 (by decide) (fun c_5 => ?_) (fun c_5 => ?_)
      · have hw := hw.1 c_5
        refine lv_iconst (v := 0) hx hb dX7_above_18 (by decide) ?_
        exact J_19 a2 a3 a4 h 0 M_3 _ _ _ kh hw hP hS (lv_sub hl [0, 2, 3, 4] rfl)
      · have hw := hw.2 c_5
        refine va_getsN (v := .ref G.2.2.2.1) hx hb hTb.1.1 hS hown (va_Nw.use rfl (hSt.2 (.fieldLinkNest RX7 41 "RaddleMarks" "KIND_ABOVE" "[I" "RaddleMarks") (by decide +kernel))) (fun _ h9 => h9) dX7_above_10 ?_
        refine lv_iload_n hx hb dX7_above_13 rfl (lv_at hl 1 rfl) ?_
        obtain ⟨c_6, hw⟩ := hw
        refine va_ti (v := .int (KA a1.toNatClampNeg)) hx hb hTb.1.2 hS c_6 rfl dX7_above_14 ?_
        refine lv_goto (tgt := 19) hx hb dX7_above_15 (by decide) ?_
        exact J_19 a2 a3 a4 h (KA a1.toNatClampNeg) M_3 _ _ _ kh hw hP hS (lv_sub hl [0, 2, 3, 4] rfl)
theorem so_X7_speak (l : Launch) (G : Gm) (h : Nat) (a1 : Int32) (a2 : Int32) (a3 : Int32) (a4 : Int32) (M : Mem) (Q : Int32 → Mem → Prop) (hw : wp_X7_speak 60 h a1 a2 a3 a4 M Q) : Ct l G yX7_speak cX7_speak 6 (some .int) (rgV 60) [.ref (G.1 + h), .int a1, .int a2, .int a3, .int a4] M (Qi Q) := (sg_V l G 60).1 h a1 a2 a3 a4 M Q hw
theorem so_X7_workOut (l : Launch) (G : Gm) (h : Nat) (a1 : Int32) (a2 : Int32) (a3 : Int32) (M : Mem) (Q : Int32 → Mem → Prop) (hw : wp_X7_workOut 60 h a1 a2 a3 M Q) : Ct l G yX7_workOut cX7_workOut 4 (some .int) (rgV 60) [.ref (G.1 + h), .int a1, .int a2, .int a3] M (Qi Q) := (sg_V l G 60).2.1 h a1 a2 a3 M Q hw
theorem so_X7_own (l : Launch) (G : Gm) (h : Nat) (a1 : Int32) (a2 : Int32) (a3 : Int32) (M : Mem) (Q : Int32 → Mem → Prop) (hw : wp_X7_own 60 h a1 a2 a3 M Q) : Ct l G yX7_own cX7_own 4 (some .int) (rgV 60) [.ref (G.1 + h), .int a1, .int a2, .int a3] M (Qi Q) := (sg_V l G 60).2.2.1 h a1 a2 a3 M Q hw
theorem so_X7_above (l : Launch) (G : Gm) (h : Nat) (a1 : Int32) (a2 : Int32) (a3 : Int32) (a4 : Int32) (M : Mem) (Q : Int32 → Mem → Prop) (hw : wp_X7_above 60 h a1 a2 a3 a4 M Q) : Ct l G yX7_above cX7_above 5 (some .int) (rgV 60) [.ref (G.1 + h), .int a1, .int a2, .int a3, .int a4] M (Qi Q) := (sg_V l G 60).2.2.2 h a1 a2 a3 a4 M Q hw
def wp_X7_raise (h : Nat) (a1 : Int32) (a2 : Int32) (a3 : Int32) (a4 : Int32) (a5 : Int32) (M : Mem) (Q : Int32 → Mem → Prop) : Prop :=
  kdT h = 7 ∧ (∀ M_1, M_1 = mu M h 1 a1 → ∀ M_2, M_2 = mu M_1 h 2 a2 → ∀ M_3, M_3 = mu M_2 h 3 a3 → wp_X3_clear (h + 1) M_3 (fun M_4 => wp_X7_speak 60 h a1 a4 a5 0 M_4 (fun r_6 M_5 => Q r_6 M_5)))
set_option maxHeartbeats 4000000 in
set_option maxRecDepth 100000 in
theorem so_X7_raise (l : Launch) (G : Gm) (h : Nat) (a1 : Int32) (a2 : Int32) (a3 : Int32) (a4 : Int32) (a5 : Int32) (M : Mem) (Q : Int32 → Mem → Prop) (hw : wp_X7_raise h a1 a2 a3 a4 a5 M Q) : Ct l G yX7_raise cX7_raise 6 (some .int) ({ frames := 63, cells := 0, slots := 0, locals := 1569 } : Room) [.ref (G.1 + h), .int a1, .int a2, .int a3, .int a4, .int a5] M (Qi Q) := by
  unfold wp_X7_raise at hw
  obtain ⟨kh, hw⟩ := hw
  refine ct_of (by decide) (Nat.le_of_ble_eq_true rfl) ?_
  intro p e s m below meth c E_ ls H hl hP hS
  obtain ⟨hx, hb, hml, hown, hts, ht, hr, hlocks, hSt, hTb⟩ := E_
  have hl : lv_has ls 6 [(0, .ref (G.1 + h)), (1, .int a1), (2, .int a2), (3, .int a3), (4, .int a4), (5, .int a5)] := hl
  refine lv_aload_n hx hb dX7_raise_0 rfl (lv_at hl 0 rfl) ?_
  refine lv_iload_n hx hb dX7_raise_1 rfl (lv_at hl 1 rfl) ?_
  refine mw_put (ci := 7) (v := a1) (ty := .int) (C := RX7) (T := TX7) (N := 4) hx hb ht inX7 tyX7 tyX7_ok nmX7 hown hSt hP hS kh (by decide) (mk7 kh) rfl 1 (by decide) (ht _ wf_RX7_20) rfl rfl (by decide +kernel) (vp_nar_int _) rfl (Nat.le_of_ble_eq_true rfl) (by rw [mk7 kh]; simp [mu]) dX7_raise_2 (fun M_1 H locs eM_1 hP hS => ?_)
  have hw := hw M_1 eM_1
  refine lv_aload_n hx hb dX7_raise_5 rfl (lv_at hl 0 rfl) ?_
  refine lv_iload_n hx hb dX7_raise_6 rfl (lv_at hl 2 rfl) ?_
  refine mw_put (ci := 7) (v := a2) (ty := .int) (C := RX7) (T := TX7) (N := 4) hx hb ht inX7 tyX7 tyX7_ok nmX7 hown hSt hP hS kh (by decide) (mk7 kh) rfl 2 (by decide) (ht _ wf_RX7_24) rfl rfl (by decide +kernel) (vp_nar_int _) rfl (Nat.le_of_ble_eq_true rfl) (by rw [mk7 kh]; simp [mu]) dX7_raise_7 (fun M_2 H locs eM_2 hP hS => ?_)
  have hw := hw M_2 eM_2
  refine lv_aload_n hx hb dX7_raise_10 rfl (lv_at hl 0 rfl) ?_
  refine lv_iload_n hx hb dX7_raise_11 rfl (lv_at hl 3 rfl) ?_
  refine mw_put (ci := 7) (v := a3) (ty := .int) (C := RX7) (T := TX7) (N := 4) hx hb ht inX7 tyX7 tyX7_ok nmX7 hown hSt hP hS kh (by decide) (mk7 kh) rfl 3 (by decide) (ht _ wf_RX7_27) rfl rfl (by decide +kernel) (vp_nar_int _) rfl (Nat.le_of_ble_eq_true rfl) (by rw [mk7 kh]; simp [mu]) dX7_raise_12 (fun M_3 H locs eM_3 hP hS => ?_)
  have hw := hw M_3 eM_3
  refine lv_aload_n hx hb dX7_raise_15 rfl (lv_at hl 0 rfl) ?_
  refine mw_get (ci := 7) (v := .ref (G.1 + (h + 1))) (C := RX7) (T := TX7) (N := 4) hx hb ht inX7 hown hSt hP kh (by decide) (mk7 kh) rfl 0 (by decide) (ht _ wf_RX7_14) rfl rfl dX7_raise_16 ?_
  refine mw_V (As := []) (rest := []) (T := TX3) (N := 2) (n := 0) ⟨hx, hb, hml, hown, hts⟩ (so_X3_clear l G (h + 1) M_3 _ hw) wm_RX7_30 wi_yX3_clear wv_yX3_clear wn_RX3 wc_yX3_clear (by decide) ⟨Nat.le_of_ble_eq_true rfl, Nat.le_of_ble_eq_true rfl⟩ ⟨rfl, rfl⟩ (ks7_0 kh) (by decide) (mk3 (ks7_0 kh)) rfl hSt hTb hP hS rfl hl.1 rfl (Nat.le_of_ble_eq_true rfl) dX7_raise_19 ⟨Nat.le_refl 0, Nat.le_refl 0⟩ (fun rr_ M_4 H locs hq hP hS => ?_)
  obtain ⟨rfl, hw⟩ := hq
  refine lv_aload_n hx hb dX7_raise_22 rfl (lv_at hl 0 rfl) ?_
  refine lv_iload_n hx hb dX7_raise_23 rfl (lv_at hl 1 rfl) ?_
  refine lv_iload hx hb dX7_raise_24 (lv_at hl 4 rfl) ?_
  refine lv_iload hx hb dX7_raise_26 (lv_at hl 5 rfl) ?_
  refine lv_iconst (v := 0) hx hb dX7_raise_28 (by decide) ?_
  refine mw_V (As := [.int a1, .int a4, .int a5, .int 0]) (rest := []) (T := TX7) (N := 4) (n := 4) ⟨hx, hb, hml, hown, hts⟩ (so_X7_speak l G h a1 a4 a5 0 M_4 _ hw) wm_RX7_33 wi_yX7_speak wv_yX7_speak wn_RX7 wc_yX7_speak (by decide) ⟨Nat.le_of_ble_eq_true rfl, Nat.le_of_ble_eq_true rfl⟩ ⟨rfl, rfl⟩ kh (by decide) (mk7 kh) rfl hSt hTb hP hS rfl hl.1 rfl (Nat.le_of_ble_eq_true rfl) dX7_raise_29 ⟨Nat.le_refl 0, Nat.le_refl 0⟩ (fun rr_ M_5 H locs hq hP hS => ?_)
  obtain ⟨r_6, rfl, hw⟩ := hq
  exact W.iret hx hb hr (mw_end hP hSt hTb hS ⟨_, rfl, hw⟩) hS.2.2 dX7_raise_32
