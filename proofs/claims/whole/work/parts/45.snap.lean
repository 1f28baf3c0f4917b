section CW
variable {M : zM} {w w2 s n k : Nat}
theorem sc_o {r : zR} {i : Nat} (h1 : ¬ r = (7, w, s)) (h2 : ¬ r = (1, w, s)) (h3 : ¬ r = (0, w, s)) (h4 : ¬ r = (7, w, 6 + s)) (h5 : ¬ r = (1, w, 6 + s)) (h6 : ¬ r = (3, w, s)) : (se_copy M w s w2 s n k).1 r i = M.1 r i := by
  simp only [se_copy, lo_copy, ro_copy, se_pp, se_pl, zz_gs, zz_gc, h1, h2, h3, h4, h5, h6, false_and, if_false]
theorem sc_3 {i : Nat} (hw : ¬ w2 = w) : (se_copy M w s w2 s n k).1 (3, w, s) i = if 2 ≤ i ∧ i ≤ 8 then M.1 (3, w2, s) i else M.1 (3, w, s) i := by
  by_cases h : 2 ≤ i ∧ i ≤ 8
  · rw [if_pos h]
    have e : i = 2 ∨ i = 3 ∨ i = 4 ∨ i = 5 ∨ i = 6 ∨ i = 7 ∨ i = 8 := by omega
    rcases e with rfl | rfl | rfl | rfl | rfl | rfl | rfl <;> simp [se_copy, lo_copy, ro_copy, se_pp, se_pl, zz_gs, zz_gc, hw]
  · rw [if_neg h]
    have e : ¬ i = 2 ∧ ¬ i = 3 ∧ ¬ i = 4 ∧ ¬ i = 5 ∧ ¬ i = 6 ∧ ¬ i = 7 ∧ ¬ i = 8 := by omega
    simp [se_copy, lo_copy, ro_copy, se_pp, se_pl, zz_gs, zz_gc, e]
theorem sc_1 : (se_copy M w s w2 s n k).1 (1, w, s) 1 = nI n := by
  have e : ¬ s = 6 + s := by omega
  simp [se_copy, lo_copy, ro_copy, se_pp, se_pl, zz_gs, zz_gc, e]
theorem sc_16 : (se_copy M w s w2 s n k).1 (1, w, 6 + s) 1 = nI k := by
  simp [se_copy, lo_copy, ro_copy, se_pp, se_pl, zz_gs, zz_gc]
theorem sc_0 (hw : ¬ w2 = w) : (se_copy M w s w2 s n k).1 (0, w, s) 1 = M.1 (0, w2, s) 1 := by
  simp [se_copy, lo_copy, ro_copy, se_pp, se_pl, zz_gs, zz_gc]
theorem sc_7 {i : Nat} (hi : i < 4 * n) (hw : ¬ w2 = w) : (se_copy M w s w2 s n k).1 (7, w, s) i = M.1 (7, w2, s) i := by
  have e : ¬ s = 6 + s := by omega
  simp [se_copy, lo_copy, ro_copy, se_pp, se_pl, zz_gs, zz_gc, e, va_cpy, hi]
theorem sc_76 {i : Nat} (hi : i < 4 * k) (hw : ¬ w2 = w) : (se_copy M w s w2 s n k).1 (7, w, 6 + s) i = M.1 (7, w2, 6 + s) i := by
  simp [se_copy, lo_copy, ro_copy, se_pp, se_pl, zz_gs, zz_gc, va_cpy, hi, hw]
/-- servers' cells that a copying writes -/
def cwr (w m : Nat) (r : zR) : Prop := r.2.1 = w ∧ (((r.1 = 0 ∨ r.1 = 1 ∨ r.1 = 3 ∨ r.1 = 7) ∧ r.2.2 < m) ∨ ((r.1 = 1 ∨ r.1 = 7) ∧ 6 ≤ r.2.2 ∧ r.2.2 < 6 + m))
theorem cw_loop (hw : ¬ w2 = w) : ∀ m, m ≤ 5 → (∀ r i, ¬ cwr w m r → (zz_it (c_cw1 w w2) m M).1 r i = M.1 r i) ∧
    ∀ s, s < m → (∀ i, 2 ≤ i → i ≤ 8 → (zz_it (c_cw1 w w2) m M).1 (3, w, s) i = M.1 (3, w2, s) i) ∧ (zz_it (c_cw1 w w2) m M).1 (1, w, s) 1 = nI (rn M w2 s) ∧ (zz_it (c_cw1 w w2) m M).1 (1, w, 6 + s) 1 = nI (rn M w2 (6 + s)) ∧ (zz_it (c_cw1 w w2) m M).1 (0, w, s) 1 = M.1 (0, w2, s) 1 ∧
      (∀ i, i < 4 * rn M w2 s → (zz_it (c_cw1 w w2) m M).1 (7, w, s) i = M.1 (7, w2, s) i) ∧ (∀ i, i < 4 * rn M w2 (6 + s) → (zz_it (c_cw1 w w2) m M).1 (7, w, 6 + s) i = M.1 (7, w2, 6 + s) i)
  | 0, _ => ⟨fun _ _ _ => rfl, fun s hs => absurd hs (by omega)⟩
  | m + 1, hm => by
    obtain ⟨a1, a2⟩ := cw_loop hw m (by omega)
    rw [zz_it]
    generalize zz_it (c_cw1 w w2) m M = X at *
    have o2 : ∀ (t j i : Nat), X.1 (t, w2, j) i = M.1 (t, w2, j) i := fun t j i => a1 _ _ (fun z => hw z.1)
    have r1 : ∀ j, rn X w2 j = rn M w2 j := fun j => by unfold rn; rw [o2]
    unfold c_cw1
    rw [r1, r1]
    refine ⟨fun r i hr => ?_, fun s hs => ?_⟩
    · rw [sc_o (fun z => hr (by rw [z]; exact ⟨rfl, Or.inl ⟨by simp, by simp⟩⟩)) (fun z => hr (by rw [z]; exact ⟨rfl, Or.inl ⟨by simp, by simp⟩⟩)) (fun z => hr (by rw [z]; exact ⟨rfl, Or.inl ⟨by simp, by simp⟩⟩)) (fun z => hr (by rw [z]; exact ⟨rfl, Or.inr ⟨by simp, by simp, by simp⟩⟩)) (fun z => hr (by rw [z]; exact ⟨rfl, Or.inr ⟨by simp, by simp, by simp⟩⟩)) (fun z => hr (by rw [z]; exact ⟨rfl, Or.inl ⟨by simp, by simp⟩⟩))]
      refine a1 r i (fun z => hr ⟨z.1, ?_⟩)
      rcases z.2 with ⟨x, y⟩ | ⟨x, y, u⟩
      · exact Or.inl ⟨x, by omega⟩
      · exact Or.inr ⟨x, y, by omega⟩
    · by_cases z : s = m
      · subst z
        refine ⟨fun i x y => ?_, sc_1, sc_16, ?_, fun i hi => ?_, fun i hi => ?_⟩
        · rw [sc_3 hw, if_pos ⟨x, y⟩, o2]
        · rw [sc_0 hw, o2]
        · rw [sc_7 hi hw, o2]
        · rw [sc_76 hi hw, o2]
      · obtain ⟨b1, b2, b3, b4, b5, b6⟩ := a2 s (by omega)
        refine ⟨fun i x y => ?_, ?_, ?_, ?_, fun i hi => ?_, fun i hi => ?_⟩
        · rw [sc_o (by simp) (by simp) (by simp) (by simp) (by simp) (by simp [z])]; exact b1 i x y
        · rw [sc_o (by simp) (by simp [z]) (by simp) (by simp) (by simp; omega) (by simp)]; exact b2
        · rw [sc_o (by simp) (by simp; omega) (by simp) (by simp) (by simp [z]) (by simp)]; exact b3
        · rw [sc_o (by simp) (by simp) (by simp [z]) (by simp) (by simp) (by simp)]; exact b4
        · rw [sc_o (by simp [z]) (by simp) (by simp) (by simp; omega) (by simp) (by simp)]; exact b5 i hi
        · rw [sc_o (by simp; omega) (by simp) (by simp) (by simp [z]) (by simp) (by simp)]; exact b6 i hi
theorem cw_fr {r : zR} {i : Nat} (hw : ¬ w2 = w) (h : ¬ r.2.1 = w ∨ r.1 = 2 ∨ r.1 = 5 ∨ r.1 = 6 ∨ 14 ≤ r.1 ∨ (r.1 = 4 ∧ i = 0)) : (c_cw M w w2).1 r i = M.1 r i := by
  have a1 := (cw_loop (M := M) hw 5 (Nat.le_refl _)).1
  have k : ∀ t j, (t = 10 ∨ t = 11 ∨ t = 12 ∨ t = 13 ∨ t = 1 ∨ t = 0 ∨ t = 7) → ¬ r = (t, w, j) := fun t j ht z => by
    rw [z] at h
    rcases h with h | h | h | h | h | h
    · exact h rfl
    · have h : t = 2 := h; omega
    · have h : t = 5 := h; omega
    · have h : t = 6 := h; omega
    · have h : 14 ≤ t := h; omega
    · have h : t = 4 := h.1; omega
  have k4 : ∀ p, ¬ p = 0 → ¬ (r = (4, w, 0) ∧ i = p) := fun p hp z => by
    rw [z.1] at h
    rcases h with h | h | h | h | h | h
    · exact h rfl
    · exact absurd (show 4 = 2 from h) (by decide)
    · exact absurd (show 4 = 5 from h) (by decide)
    · exact absurd (show 4 = 6 from h) (by decide)
    · exact absurd (show 14 ≤ 4 from h) (by decide)
    · exact hp (by rw [← z.2]; exact h.2)
  unfold c_cw lo_copy ro_copy
  dsimp only
  rw [zz_gs, if_neg (k4 11 (by omega)), zz_gs, if_neg (k4 10 (by omega)), zz_gs, if_neg (k4 9 (by omega)), zz_gc, if_neg (k 13 0 (by omega)), zz_gc, if_neg (k 12 0 (by omega)), zz_gs, if_neg (fun z => k 1 12 (by omega) z.1), zz_gc, if_neg (k 7 12 (by omega)), zz_gs, if_neg (fun z => k 1 11 (by omega) z.1), zz_gc, if_neg (k 7 11 (by omega)), zz_gs, if_neg (fun z => k 0 5 (by omega) z.1), zz_gs, if_neg (fun z => k 1 5 (by omega) z.1), zz_gc, if_neg (k 7 5 (by omega)), zz_gc, if_neg (k 11 0 (by omega)), zz_gc, if_neg (k 10 0 (by omega))]
  refine a1 r i (fun z => ?_)
  obtain ⟨z1, z2⟩ := z
  have : r = (r.1, w, r.2.2) := by rw [← z1]
  rcases z2 with ⟨x, _⟩ | ⟨x, _⟩
  · rcases h with h | h | h | h | h | h <;> omega
  · rcases h with h | h | h | h | h | h <;> omega
/-- what a copying writes beside the servers -/
def cwE (X M : zM) (w w2 : Nat) : Prop :=
  (∀ i, i < 25 → X.1 (10, w, 0) i = M.1 (10, w2, 0) i) ∧ (∀ i, i < 5 → X.1 (11, w, 0) i = M.1 (11, w2, 0) i) ∧ (∀ i, i < 4 → X.1 (12, w, 0) i = M.1 (12, w2, 0) i) ∧ (∀ i, i < 4 → X.1 (13, w, 0) i = M.1 (13, w2, 0) i) ∧
  (∀ j, j = 5 ∨ j = 11 ∨ j = 12 → X.1 (1, w, j) 1 = nI (rn M w2 j) ∧ ∀ i, i < 4 * rn M w2 j → X.1 (7, w, j) i = M.1 (7, w2, j) i) ∧ X.1 (0, w, 5) 1 = M.1 (0, w2, 5) 1 ∧ (∀ i, i = 9 ∨ i = 10 ∨ i = 11 → X.1 (4, w, 0) i = M.1 (4, w2, 0) i)
theorem cw_E (hw : ¬ w2 = w) : cwE (c_cw M w w2) M w w2 := by
  have a1 := (cw_loop (M := M) hw 5 (Nat.le_refl _)).1
  have o2 : ∀ (t j i : Nat), (zz_it (c_cw1 w w2) 5 M).1 (t, w2, j) i = M.1 (t, w2, j) i := fun t j i => a1 _ _ (fun z => hw z.1)
  unfold c_cw
  generalize zz_it (c_cw1 w w2) 5 M = X at *
  refine ⟨fun i hi => ?_, fun i hi => ?_, fun i hi => ?_, fun i hi => ?_, fun j hj => ⟨?_, fun i hi => ?_⟩, ?_, fun i hi => ?_⟩
  · simp [lo_copy, ro_copy, zz_gs, zz_gc, va_cpy, hw, hi, o2]
  · simp [lo_copy, ro_copy, zz_gs, zz_gc, va_cpy, hw, hi, o2]
  · simp [lo_copy, ro_copy, zz_gs, zz_gc, va_cpy, hw, hi, o2]
  · simp [lo_copy, ro_copy, zz_gs, zz_gc, va_cpy, hw, hi, o2]
  · rcases hj with rfl | rfl | rfl <;> simp [lo_copy, ro_copy, zz_gs, zz_gc, va_cpy, hw, o2]
  · rcases hj with rfl | rfl | rfl <;> simp [lo_copy, ro_copy, zz_gs, zz_gc, va_cpy, hw, hi, o2]
  · simp [lo_copy, ro_copy, zz_gs, zz_gc, va_cpy, hw, o2]
  · rcases hi with rfl | rfl | rfl <;> simp [lo_copy, ro_copy, zz_gs, zz_gc, va_cpy, hw, o2]
theorem cw_V (hw : ¬ w2 = w) (s : Nat) (hs : s < 5) : (∀ i, 2 ≤ i → i ≤ 8 → (c_cw M w w2).1 (3, w, s) i = M.1 (3, w2, s) i) ∧ (c_cw M w w2).1 (1, w, s) 1 = nI (rn M w2 s) ∧ (c_cw M w w2).1 (1, w, 6 + s) 1 = nI (rn M w2 (6 + s)) ∧ (c_cw M w w2).1 (0, w, s) 1 = M.1 (0, w2, s) 1 ∧
      (∀ i, i < 4 * rn M w2 s → (c_cw M w w2).1 (7, w, s) i = M.1 (7, w2, s) i) ∧ (∀ i, i < 4 * rn M w2 (6 + s) → (c_cw M w w2).1 (7, w, 6 + s) i = M.1 (7, w2, 6 + s) i) := by
  obtain ⟨b1, b2, b3, b4, b5, b6⟩ := (cw_loop (M := M) hw 5 (Nat.le_refl _)).2 s hs
  unfold c_cw
  generalize zz_it (c_cw1 w w2) 5 M = X at *
  have e1 : ¬ s = 5 := by omega
  have e2 : ¬ s = 11 := by omega
  have e3 : ¬ s = 12 := by omega
  have e4 : ¬ 6 + s = 5 := by omega
  have e5 : ¬ 6 + s = 11 := by omega
  have e6 : ¬ 6 + s = 12 := by omega
  refine ⟨fun i x y => ?_, ?_, ?_, ?_, fun i hi => ?_, fun i hi => ?_⟩
  · rw [← b1 i x y]; simp [lo_copy, ro_copy, zz_gs, zz_gc]
  · rw [← b2]; simp [lo_copy, ro_copy, zz_gs, zz_gc, e1, e2, e3]
  · rw [← b3]; simp [lo_copy, ro_copy, zz_gs, zz_gc, e4, e5, e6]
  · rw [← b4]; simp [lo_copy, ro_copy, zz_gs, zz_gc, e1, e2, e3]
  · rw [← b5 i hi]; simp [lo_copy, ro_copy, zz_gs, zz_gc, e1, e2, e3]
  · rw [← b6 i hi]; simp [lo_copy, ro_copy, zz_gs, zz_gc, e4, e5, e6]
theorem cw_rel {d : Int} {n : Nat} {f : Nat → Int32} (hw : ¬ w2 = w) (h : yRel w2 M f) (hr : yR w2 M f) (hV : Vn d n f) : yRel w (c_cw M w w2) f ∧ yR w (c_cw M w w2) f := by
  obtain ⟨c10, c11, c12, c13, cr, c05, c4⟩ := cw_E (M := M) hw
  obtain ⟨a1, a2, a3, a4, a5, a6, a7, a8, a9⟩ := h
  have sz : ∀ {j i : Nat}, M.1 (1, w2, j) 1 = f i → mwi i → rn M w2 j = fl f i ∧ nI (rn M w2 j) = f i := fun {j i} e hi => by
    have e1 : rn M w2 j = fl f i := by unfold rn fl; rw [e]
    exact ⟨e1, by rw [e1]; exact (hV.1 i hi).1.symm⟩
  refine ⟨⟨⟨?_, ?_, ?_⟩, fun s hs => ?_, fun i hi => ?_, fun s hs => ?_, ?_, fun s hs => ?_, ?_, fun c hc => ?_, ?_⟩, fun s hs => ?_⟩
  · rw [c4 9 (by omega)]; exact a1.1
  · rw [c4 10 (by omega)]; exact a1.2.1
  · rw [c4 11 (by omega)]; exact a1.2.2
  · obtain ⟨b1, _⟩ := cw_V (M := M) hw s hs
    unfold yS1
    rw [b1 2 (by omega) (by omega), b1 3 (by omega) (by omega), b1 4 (by omega) (by omega), b1 5 (by omega) (by omega), b1 6 (by omega) (by omega), b1 7 (by omega) (by omega), b1 8 (by omega) (by omega)]
    exact a2 s hs
  · rw [c10 i hi]; exact a3 i hi
  · obtain ⟨_, b2, _, b4, b5, _⟩ := cw_V (M := M) hw s hs
    obtain ⟨e1, e2⟩ := sz (a4 s hs).1 (by unfold mwi; omega)
    refine ⟨by rw [b2, e2], by rw [b4]; exact (a4 s hs).2.1, fun i hi => ?_⟩
    rw [b5 i (by omega)]; exact (a4 s hs).2.2 i hi
  · obtain ⟨e1, e2⟩ := sz a5.1 (by unfold mwi; omega)
    obtain ⟨b1, b2⟩ := cr 5 (by omega)
    refine ⟨by rw [b1, e2], by rw [c05]; exact a5.2.1, fun i hi => ?_⟩
    rw [b2 i (by omega)]; exact a5.2.2 i hi
  · obtain ⟨_, _, b3, _, _, b6⟩ := cw_V (M := M) hw s hs
    obtain ⟨e1, e2⟩ := sz (a6 s hs).1 (by unfold mwi; omega)
    refine ⟨by rw [b3, e2], fun k hk => ?_⟩
    rw [b6 _ (by omega), b6 _ (by omega)]; exact (a6 s hs).2 k hk
  · obtain ⟨e1, e2⟩ := sz a7.1 (by unfold mwi; omega)
    obtain ⟨b1, b2⟩ := cr 11 (by omega)
    refine ⟨by rw [b1, e2], fun i hi => ?_⟩
    rw [b2 i (by omega)]; exact a7.2 i hi
  · rw [c12 c hc, c13 c hc]; exact a8 c hc
  · obtain ⟨e1, e2⟩ := sz a9.1 (by unfold mwi; omega)
    obtain ⟨b1, b2⟩ := cr 12 (by omega)
    refine ⟨by rw [b1, e2], fun k hk => ?_⟩
    rw [b2 _ (by omega), b2 _ (by omega), b2 _ (by omega), b2 _ (by omega)]; exact a9.2 k hk
  · rw [c11 s hs]; exact hr s hs
end CW
