/-! ===== the fresh world ===== -/
def rZ : Nat → Int32 := upd (upd (upd (fun _ => 0) 1 1) 6 (-1)) 7 (-1)
def mdL : List Nat := [0, 3, 0, 1, 0, 0, 0, 0, 2, 0, 0, 0, 0, 0, 0, 0, 0, 0, 0, 0, 0, 0, 0, 0, 0, 0, 0, 0, 0, 0, 0, 0, 0, 0, 0, 3, 0, 1, 0, 0, 0, 0, 2, 0, 0, 0, 0, 0, 0, 0, 0, 0, 0, 0, 0, 0, 0, 0, 0, 0, 0, 0, 0, 0, 0, 0, 0, 0, 0, 0, 1, 0, 0, 0, 0, 2, 0, 0, 0, 0, 0, 0, 0, 0, 0, 0, 0, 0, 0, 0, 0, 0, 0, 0, 0, 0, 0, 0, 0, 0, 0, 0, 0, 0, 0, 0, 0, 0, 0, 0, 0, 0, 0, 0, 0, 0, 0, 0, 0, 0, 0, 4, 0, 0, 0, 0, 0, 0, 0, 0, 0, 0, 0, 0]
def fnT (k : Nat) : Nat → Int32 := match k with
  | 1 => upd (fun _ => 0) 0 99
  | 2 => upd (fun _ => 0) 0 1
  | 3 => upd (fun _ => 0) 3 1
  | 4 => upd (upd (upd (fun _ => 0) 1 1) 6 (-1)) 7 (-1)
  | _ => fun _ => 0
def M0 : Mem := fun h => fnT (mdL.getD h 0)
set_option maxHeartbeats 40000000 in
set_option maxRecDepth 1000000 in
theorem fresh_eq (G : Gm) : rmkW G 0 ++ mdlW G 120 = (List.range nW).map (fun i => mkE G M0 i) := by
  rfl
theorem fresh_P {G : Gm} {H : Heap} (h : gP G (rmkW G 0 ++ mdlW G 120) H) : va_P G.2.1 clsA (wl G M0) H := by
  rw [fresh_eq] at h
  intro k q hk
  obtain ⟨hl, rfl⟩ := wl_at hk
  exact h.1 k _ (by simp only [List.getElem?_map, List.getElem?_range hl, Option.map_some])
theorem rZ_0 {i : Nat} (h : 8 ≤ i) : rZ i = 0 := by
  unfold rZ
  rw [upd_off (by omega), upd_off (by omega), upd_off (by omega)]
theorem rZ_t : tn (rZ 3) = 0 ∧ tn (rZ 2) = 0 ∧ tn (rZ 4) = 0 ∧ tn (rZ 5) = 0 ∧ tn (if rZ 6 < 0 then 0 else rZ 6) = 0 ∧ tn (if rZ 7 < 0 then 0 else rZ 7) = 0 := by decide +kernel
theorem RW_0 : RW rZ := by
  refine ⟨0, 0, 0, 0, 0, ⟨⟨by decide +kernel, by omega⟩, ⟨by decide +kernel, by omega⟩, ⟨by decide +kernel, by omega⟩, fun c _ => ⟨0, by omega, (rZ_0 (by omega)).trans nI_0.symm⟩, fun s hs => absurd hs (by omega), fun k hk => absurd hk (by omega), Or.inl (by decide +kernel), Or.inl (by decide +kernel)⟩, by omega, ⟨by decide +kernel, by omega⟩, ⟨by decide +kernel, by omega⟩, fun j hj => absurd hj (by omega)⟩
theorem no_lt {n j : Nat} (h : n = 0) (hj : j < n) : False := by omega
theorem MR_0 : MR M0 2 rZ := by
  refine ⟨⟨by decide +kernel, by decide +kernel, by decide +kernel⟩, fun c _ => (rZ_0 (by omega)).symm, fun i hi => (no_lt rZ_t.1 hi).elim, fun i hi => (no_lt rZ_t.2.1 hi).elim, ⟨by decide +kernel, by decide +kernel, fun j hj => (no_lt rZ_t.2.2.2.2.1 hj).elim⟩, ⟨by decide +kernel, by decide +kernel, fun j hj => (no_lt rZ_t.2.2.2.2.2 hj).elim⟩⟩
theorem WR_0 : WR M0 1 rZ := ⟨by decide +kernel, MR_0, ⟨by decide +kernel, fun j hj => (no_lt rZ_t.2.2.1 hj).elim⟩, ⟨by decide +kernel, fun j hj => (no_lt rZ_t.2.2.2.1 hj).elim⟩⟩
theorem z_t {x : Int32} (h : x = 0) : tn x = 0 := by subst h; decide
theorem INV_0 : INV 0 M0 := by
  have e4 : M0 120 4 = 0 := by decide +kernel
  refine ⟨⟨WR_0, by decide +kernel, fun z => absurd e4 z, ⟨⟨by decide +kernel, by decide +kernel⟩, ⟨by decide +kernel, by decide +kernel⟩⟩, fun k _ _ => rfl, fun s hs => ?_, ⟨by decide +kernel, fun j hj => (no_lt (z_t (by decide +kernel)) hj).elim⟩⟩, ⟨RW_0, ⟨0, by omega, by decide +kernel, by decide +kernel⟩, fun z => absurd e4 z, fun s hs => ⟨⟨0, by omega, nI_0.symm⟩, Or.inl rfl⟩, 0, by omega, by decide +kernel⟩, fun i hi => ⟨rZ_0 (by omega), rfl, rfl⟩⟩
  rcases (show s = 0 ∨ s = 1 ∨ s = 2 ∨ s = 3 by omega) with rfl | rfl | rfl | rfl
  · exact ⟨by decide +kernel, by decide +kernel, fun j hj => (no_lt (z_t (by decide +kernel)) hj).elim⟩
  · exact ⟨by decide +kernel, by decide +kernel, fun j hj => (no_lt (z_t (by decide +kernel)) hj).elim⟩
  · exact ⟨by decide +kernel, by decide +kernel, fun j hj => (no_lt (z_t (by decide +kernel)) hj).elim⟩
  · exact ⟨by decide +kernel, by decide +kernel, fun j hj => (no_lt (z_t (by decide +kernel)) hj).elim⟩
