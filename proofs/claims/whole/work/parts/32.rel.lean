def fl (f : Nat → Int32) (i : Nat) : Nat := zz_ix (f i)
def al (f : Nat → Int32) : sA := fun k s =>
  if k < 10 then (if s < 5 then (f (if k = 0 then 0 else if k = 1 then 36 + s else if k = 2 then 41 + s else if k = 3 then 46 + s else if k = 4 then 61 + s else 66 + s)).toInt else 0)
  else if k < 16 then (if s < 160 then (f (476 + 160 * (k - 10) + s)).toInt else 0)
  else if 20 ≤ k ∧ k < 25 then (if s < 40 then (f (76 + 40 * (k - 20) + s)).toInt else 0)
  else if 30 ≤ k ∧ k < 35 then (if s < 40 then (f (276 + 40 * (k - 30) + s)).toInt else 0) else 0
def an (f : Nat → Int32) : sN := fun k s => if k = 0 then (if s < 5 then fl f (51 + s) else fl f 1436) else if k = 1 then (if s < 5 then fl f (56 + s) else 0) else (if s < 5 then fl f (71 + s) else 0)
theorem al0 (f : Nat → Int32) : al f 0 0 = (f 0).toInt := rfl
theorem al1 (f : Nat → Int32) {s : Nat} (hs : s < 5) : al f 1 s = (f (36 + s)).toInt := by simp [al, hs]
theorem al2 (f : Nat → Int32) {s : Nat} (hs : s < 5) : al f 2 s = (f (41 + s)).toInt := by simp [al, hs]
theorem al3 (f : Nat → Int32) {s : Nat} (hs : s < 5) : al f 3 s = (f (46 + s)).toInt := by simp [al, hs]
theorem al4 (f : Nat → Int32) {s : Nat} (hs : s < 5) : al f 4 s = (f (61 + s)).toInt := by simp [al, hs]
theorem al5 (f : Nat → Int32) {s : Nat} (hs : s < 5) : al f 5 s = (f (66 + s)).toInt := by simp [al, hs]
theorem alL (f : Nat → Int32) {s j : Nat} (hs : s < 6) (hj : j < 160) : al f (10 + s) j = (f (476 + 160 * s + j)).toInt := by
  unfold al
  rw [if_neg (by omega), if_pos (by omega), if_pos hj, Nat.add_sub_cancel_left]
theorem alH (f : Nat → Int32) {j : Nat} (hj : j < 160) : al f 15 j = (f (1276 + j)).toInt := alL f (s := 5) (by omega) hj
theorem alI (f : Nat → Int32) {s j : Nat} (hs : s < 5) (hj : j < 40) : al f (20 + s) j = (f (76 + 40 * s + j)).toInt := by
  unfold al
  rw [if_neg (by omega), if_neg (by omega), if_pos (by omega), if_pos hj, Nat.add_sub_cancel_left]
theorem alJ (f : Nat → Int32) {s j : Nat} (hs : s < 5) (hj : j < 40) : al f (30 + s) j = (f (276 + 40 * s + j)).toInt := by
  unfold al
  rw [if_neg (by omega), if_neg (by omega), if_neg (by omega), if_pos (by omega), if_pos hj, Nat.add_sub_cancel_left]
theorem an0 (f : Nat → Int32) {s : Nat} (hs : s < 5) : an f 0 s = fl f (51 + s) := by simp [an, hs]
theorem an5 (f : Nat → Int32) : an f 0 5 = fl f 1436 := rfl
theorem an1 (f : Nat → Int32) {s : Nat} (hs : s < 5) : an f 1 s = fl f (56 + s) := by simp [an, hs]
theorem an2 (f : Nat → Int32) {s : Nat} (hs : s < 5) : an f 2 s = fl f (71 + s) := by simp [an, hs]
theorem al_hi {f f' : Nat → Int32} (h : ∀ i, 76 ≤ i → i < 1436 → f' i = f i) : ∀ k, 10 ≤ k → ∀ j, al f' k j = al f k j := by
  intro k hk j
  have a0 : ¬ k < 10 := by omega
  unfold al
  simp only [if_neg a0]
  by_cases a : k < 16
  · simp only [if_pos a]
    by_cases b : j < 160
    · simp only [if_pos b]; rw [h _ (by omega) (by omega)]
    · simp only [if_neg b]
  · simp only [if_neg a]
    by_cases c : 20 ≤ k ∧ k < 25
    · simp only [if_pos c]
      by_cases b : j < 40
      · simp only [if_pos b]; rw [h _ (by omega) (by omega)]
      · simp only [if_neg b]
    · simp only [if_neg c]
      by_cases c : 30 ≤ k ∧ k < 35
      · simp only [if_pos c]
        by_cases b : j < 40
        · simp only [if_pos b]; rw [h _ (by omega) (by omega)]
        · simp only [if_neg b]
      · simp only [if_neg c]
theorem al_lo {f f' : Nat → Int32} (h : ∀ i, i = 0 ∨ (36 ≤ i ∧ i < 51) ∨ (61 ≤ i ∧ i < 71) → f' i = f i) : ∀ k, k < 10 → ∀ j, al f' k j = al f k j := by
  intro k hk j
  unfold al
  rw [if_pos hk, if_pos hk]
  split
  · rw [h]
    split
    · omega
    · split
      · omega
      · split
        · omega
        · split
          · omega
          · split <;> omega
  · rfl
theorem fl_c {f f' : Nat → Int32} {i : Nat} (h : f' i = f i) : fl f' i = fl f i := by unfold fl; rw [h]
theorem fl_n {f : Nat → Int32} {i n : Nat} (h : f i = nI n) (hn : n < 100000) : fl f i = n := by unfold fl; rw [h]; exact zz_ixn (by omega)
def yT (w : Nat) (M : zM) (f : Nat → Int32) : Prop := M.1 (4, w, 0) 9 = f 0 ∧ M.1 (4, w, 0) 10 = f 1438 ∧ M.1 (4, w, 0) 11 = f 1728
def yS1 (w : Nat) (M : zM) (f : Nat → Int32) (s : Nat) : Prop := M.1 (3, w, s) 2 = f (1 + s) ∧ M.1 (3, w, s) 3 = f (6 + s) ∧ M.1 (3, w, s) 4 = f (36 + s) ∧ M.1 (3, w, s) 5 = f (41 + s) ∧ M.1 (3, w, s) 6 = (if f (41 + s) = -1000 then -1000 else f (46 + s)) ∧ M.1 (3, w, s) 7 = (if f (61 + s) = 0 then -1000 else f (61 + s)) ∧ M.1 (3, w, s) 8 = (if f (61 + s) = 0 then -1000 else f (66 + s))
def yS (w : Nat) (M : zM) (f : Nat → Int32) : Prop := ∀ s, s < 5 → yS1 w M f s
def yK (w : Nat) (M : zM) (f : Nat → Int32) : Prop := ∀ i, i < 25 → M.1 (10, w, 0) i = f (11 + i)
def yR (w : Nat) (M : zM) (f : Nat → Int32) : Prop := ∀ s, s < 5 → M.1 (11, w, 0) s = if f 1734 = 1 then f (1729 + s) else -1000
def yL (w : Nat) (M : zM) (f : Nat → Int32) : Prop := ∀ s, s < 5 → M.1 (1, w, s) 1 = f (51 + s) ∧ M.1 (0, w, s) 1 = f (56 + s) ∧ ∀ i, i < 4 * fl f (51 + s) → M.1 (7, w, s) i = f (476 + 160 * s + i)
def yH (w : Nat) (M : zM) (f : Nat → Int32) : Prop := M.1 (1, w, 5) 1 = f 1436 ∧ M.1 (0, w, 5) 1 = f 1436 ∧ ∀ i, i < 4 * fl f 1436 → M.1 (7, w, 5) i = f (1276 + i)
def yO (w : Nat) (M : zM) (f : Nat → Int32) : Prop := ∀ s, s < 5 → M.1 (1, w, 6 + s) 1 = f (71 + s) ∧ ∀ k, k < fl f (71 + s) → M.1 (7, w, 6 + s) (4 * k + 1) = f (76 + 40 * s + k) ∧ M.1 (7, w, 6 + s) (4 * k + 2) = f (276 + 40 * s + k)
def yG (w : Nat) (M : zM) (f : Nat → Int32) : Prop := M.1 (1, w, 11) 1 = f 1437 ∧ ∀ i, i < 4 * fl f 1437 → M.1 (7, w, 11) i = f (1439 + i)
def yC (w : Nat) (M : zM) (f : Nat → Int32) : Prop := ∀ c, c < 4 → M.1 (12, w, 0) c = f (1639 + 2 * c) ∧ M.1 (13, w, 0) c = f (1639 + 2 * c + 1)
def yM (w : Nat) (M : zM) (f : Nat → Int32) : Prop := M.1 (1, w, 12) 1 = f 1647 ∧ ∀ k, k < fl f 1647 → M.1 (7, w, 12) (4 * k) = f (1648 + 4 * k + 1) ∧ M.1 (7, w, 12) (4 * k + 1) = f (1648 + 4 * k + 2) ∧ M.1 (7, w, 12) (4 * k + 2) = f (1648 + 4 * k) ∧ M.1 (7, w, 12) (4 * k + 3) = f (1648 + 4 * k + 3)
def yRel (w : Nat) (M : zM) (f : Nat → Int32) : Prop := yT w M f ∧ yS w M f ∧ yK w M f ∧ yL w M f ∧ yH w M f ∧ yO w M f ∧ yG w M f ∧ yC w M f ∧ yM w M f
section YC
variable {w : Nat} {M M' : zM} {f f' : Nat → Int32}
theorem yT_c (h : yT w M f) (hM : ∀ i, M'.1 (4, w, 0) i = M.1 (4, w, 0) i) (h0 : f' 0 = f 0) (h1 : f' 1438 = f 1438) (h2 : f' 1728 = f 1728) : yT w M' f' := by
  unfold yT at *
  rw [hM, hM, hM, h0, h1, h2]; exact h
theorem yS1_c {s : Nat} (h : yS1 w M f s) (hM : ∀ i, M'.1 (3, w, s) i = M.1 (3, w, s) i) (hs : s < 5) (hf : ∀ i, (1 ≤ i ∧ i < 11) ∨ (36 ≤ i ∧ i < 51) ∨ (61 ≤ i ∧ i < 71) → f' i = f i) : yS1 w M' f' s := by
  unfold yS1 at *
  rw [hM, hM, hM, hM, hM, hM, hM, hf _ (by omega), hf _ (by omega), hf _ (by omega), hf _ (by omega), hf _ (by omega), hf _ (by omega), hf _ (by omega)]; exact h
theorem yS_c (h : yS w M f) (hM : ∀ s, s < 5 → ∀ i, M'.1 (3, w, s) i = M.1 (3, w, s) i) (hf : ∀ i, (1 ≤ i ∧ i < 11) ∨ (36 ≤ i ∧ i < 51) ∨ (61 ≤ i ∧ i < 71) → f' i = f i) : yS w M' f' :=
  fun s hs => yS1_c (h s hs) (hM s hs) hs hf
theorem yK_c (h : yK w M f) (hM : ∀ i, M'.1 (10, w, 0) i = M.1 (10, w, 0) i) (hf : ∀ i, 11 ≤ i → i < 36 → f' i = f i) : yK w M' f' := fun i hi => by
  rw [hM, hf _ (by omega) (by omega)]; exact h i hi
theorem yR_c (h : yR w M f) (hM : ∀ i, M'.1 (11, w, 0) i = M.1 (11, w, 0) i) (hf : ∀ i, 1729 ≤ i → i < 1735 → f' i = f i) : yR w M' f' := fun i hi => by
  rw [hM, hf _ (by omega) (by omega), hf _ (by omega) (by omega)]; exact h i hi
theorem yL_c (h : yL w M f) (hb : ∀ s, s < 5 → fl f (51 + s) ≤ 40) (h1 : ∀ s, s < 5 → M'.1 (1, w, s) 1 = M.1 (1, w, s) 1) (h0 : ∀ s, s < 5 → M'.1 (0, w, s) 1 = M.1 (0, w, s) 1) (h7 : ∀ s, s < 5 → ∀ i, M'.1 (7, w, s) i = M.1 (7, w, s) i) (hf : ∀ i, (51 ≤ i ∧ i < 61) ∨ (476 ≤ i ∧ i < 1276) → f' i = f i) : yL w M' f' := fun s hs => by
  obtain ⟨a, b, c⟩ := h s hs
  have := hb s hs
  have e := fl_c (hf (51 + s) (by omega))
  refine ⟨by rw [h1 s hs, hf _ (by omega)]; exact a, by rw [h0 s hs, hf _ (by omega)]; exact b, fun i hi => ?_⟩
  rw [e] at hi
  rw [h7 s hs, hf _ (by omega)]; exact c i hi
theorem yH_c (h : yH w M f) (hb : fl f 1436 ≤ 40) (h1 : M'.1 (1, w, 5) 1 = M.1 (1, w, 5) 1) (h0 : M'.1 (0, w, 5) 1 = M.1 (0, w, 5) 1) (h7 : ∀ i, M'.1 (7, w, 5) i = M.1 (7, w, 5) i) (hf : ∀ i, 1276 ≤ i → i < 1437 → f' i = f i) : yH w M' f' := by
  obtain ⟨a, b, c⟩ := h
  have e := fl_c (hf 1436 (by omega) (by omega))
  refine ⟨by rw [h1, hf _ (by omega) (by omega)]; exact a, by rw [h0, hf _ (by omega) (by omega)]; exact b, fun i hi => ?_⟩
  rw [e] at hi
  rw [h7, hf _ (by omega) (by omega)]; exact c i hi
theorem yO_c (h : yO w M f) (hb : ∀ s, s < 5 → fl f (71 + s) ≤ 40) (h1 : ∀ s, s < 5 → M'.1 (1, w, 6 + s) 1 = M.1 (1, w, 6 + s) 1) (h7 : ∀ s, s < 5 → ∀ i, M'.1 (7, w, 6 + s) i = M.1 (7, w, 6 + s) i) (hf : ∀ i, 71 ≤ i → i < 476 → f' i = f i) : yO w M' f' := fun s hs => by
  obtain ⟨a, c⟩ := h s hs
  have := hb s hs
  have e := fl_c (hf (71 + s) (by omega) (by omega))
  refine ⟨by rw [h1 s hs, hf _ (by omega) (by omega)]; exact a, fun i hi => ?_⟩
  rw [e] at hi
  rw [h7 s hs, h7 s hs, hf _ (by omega) (by omega), hf _ (by omega) (by omega)]; exact c i hi
theorem yG_c (h : yG w M f) (hb : fl f 1437 ≤ 50) (h1 : M'.1 (1, w, 11) 1 = M.1 (1, w, 11) 1) (h7 : ∀ i, M'.1 (7, w, 11) i = M.1 (7, w, 11) i) (hf : ∀ i, 1437 ≤ i → ¬ i = 1438 → i < 1639 → f' i = f i) : yG w M' f' := by
  obtain ⟨a, c⟩ := h
  have e := fl_c (hf 1437 (by omega) (by omega) (by omega))
  refine ⟨by rw [h1, hf _ (by omega) (by omega) (by omega)]; exact a, fun i hi => ?_⟩
  rw [e] at hi
  rw [h7, hf _ (by omega) (by omega) (by omega)]; exact c i hi
theorem yC_c (h : yC w M f) (h1 : ∀ i, M'.1 (12, w, 0) i = M.1 (12, w, 0) i) (h2 : ∀ i, M'.1 (13, w, 0) i = M.1 (13, w, 0) i) (hf : ∀ i, 1639 ≤ i → i < 1647 → f' i = f i) : yC w M' f' := fun c hc => by
  rw [h1, h2, hf _ (by omega) (by omega), hf _ (by omega) (by omega)]; exact h c hc
theorem yM_c (h : yM w M f) (hb : fl f 1647 ≤ 20) (h1 : M'.1 (1, w, 12) 1 = M.1 (1, w, 12) 1) (h7 : ∀ i, M'.1 (7, w, 12) i = M.1 (7, w, 12) i) (hf : ∀ i, 1647 ≤ i → i < 1728 → f' i = f i) : yM w M' f' := by
  obtain ⟨a, c⟩ := h
  have e := fl_c (hf 1647 (by omega) (by omega))
  refine ⟨by rw [h1, hf _ (by omega) (by omega)]; exact a, fun i hi => ?_⟩
  rw [e] at hi
  rw [h7, h7, h7, h7, hf _ (by omega) (by omega), hf _ (by omega) (by omega), hf _ (by omega) (by omega), hf _ (by omega) (by omega)]; exact c i hi
end YC
def Vn (d : Int) (n : Nat) (f : Nat → Int32) : Prop :=
  (∀ i, mwi i → f i = nI (fl f i) ∧ fl f i ≤ mwb i) ∧ (0 ≤ (f 0).toInt ∧ (f 0).toInt ≤ 100000) ∧
  (∀ s, s < 5 → (-d ≤ (f (1 + s)).toInt ∧ (f (1 + s)).toInt ≤ d) ∧ (0 ≤ (f (36 + s)).toInt ∧ (f (36 + s)).toInt ≤ n) ∧ (f (41 + s) = -1000 ∨ ∃ u, u < 5 ∧ f (41 + s) = nI u) ∧ (-100 ≤ (f (46 + s)).toInt ∧ (f (46 + s)).toInt ≤ 100200) ∧ (0 ≤ (f (61 + s)).toInt ∧ (f (61 + s)).toInt ≤ n)) ∧
  (∀ k, k < fl f 1647 → (∃ c, c < 4 ∧ f (1648 + 4 * k + 1) = nI c) ∧ (f (1648 + 4 * k + 3) = 0 ∨ f (1648 + 4 * k + 3) = 1))
def In (d : Int) (n : Nat) (f : Nat → Int32) : Prop := Vn d n f ∧ Sf (al f) (an f)
/-- the doubts of both -/
def yD (d : Int) (Mc Mm : zM) : Prop := Mc.1 (4, 0, 0) 0 = Mm.1 (6, 0, 0) 3 ∧ (Mm.1 (6, 0, 0) 3).toInt = d ∧ 0 ≤ d ∧ d ≤ 20
theorem Vn_len {d : Int} {n s : Nat} {f : Nat → Int32} (h : Vn d n f) (hs : s < 5) : f (51 + s) = nI (fl f (51 + s)) ∧ fl f (51 + s) ≤ 40 := ⟨(h.1 _ (by unfold mwi; omega)).1, Nat.le_trans (h.1 _ (by unfold mwi; omega)).2 (mwb40 (by omega))⟩
theorem Vn_done {d : Int} {n s : Nat} {f : Nat → Int32} (h : Vn d n f) (hs : s < 5) : f (56 + s) = nI (fl f (56 + s)) ∧ fl f (56 + s) ≤ 40 := ⟨(h.1 _ (by unfold mwi; omega)).1, Nat.le_trans (h.1 _ (by unfold mwi; omega)).2 (mwb40 (by omega))⟩
theorem Vn_due {d : Int} {n s : Nat} {f : Nat → Int32} (h : Vn d n f) (hs : s < 5) : f (71 + s) = nI (fl f (71 + s)) ∧ fl f (71 + s) ≤ 40 := ⟨(h.1 _ (by unfold mwi; omega)).1, Nat.le_trans (h.1 _ (by unfold mwi; omega)).2 (mwb40 (by omega))⟩
theorem Vn_hist {d : Int} {n : Nat} {f : Nat → Int32} (h : Vn d n f) : f 1436 = nI (fl f 1436) ∧ fl f 1436 ≤ 40 := h.1 1436 (by unfold mwi; omega)
theorem Vn_kept {d : Int} {n : Nat} {f : Nat → Int32} (h : Vn d n f) : f 1437 = nI (fl f 1437) ∧ fl f 1437 ≤ 50 := h.1 1437 (by unfold mwi; omega)
theorem Vn_sent {d : Int} {n : Nat} {f : Nat → Int32} (h : Vn d n f) : f 1647 = nI (fl f 1647) ∧ fl f 1647 ≤ 20 := h.1 1647 (by unfold mwi; omega)
section YB
variable {d : Int} {n : Nat} {Mc Mm : zM}
theorem v_rd {s : Nat} (hV : Vn d n (Mm.1 (20, 0, 0))) (hD : yD d Mc Mm) (hs : s < 5) : (m_rd Mm s).toInt = (Mm.1 (20, 0, 0) 0).toInt + (Mm.1 (20, 0, 0) (1 + s)).toInt := by
  obtain ⟨_, h0, h1, _⟩ := hV
  obtain ⟨_, _, h2, h3⟩ := hD
  have := (h1 s hs).1
  unfold m_rd
  exact ni_add (by unfold q; omega) (by unfold q; omega)
theorem v_ea {s : Nat} (hV : Vn d n (Mm.1 (20, 0, 0))) (hD : yD d Mc Mm) (hs : s < 5) : (m_ea Mm s).toInt = (Mm.1 (20, 0, 0) 0).toInt + (Mm.1 (20, 0, 0) (1 + s)).toInt - d := by
  have e := v_rd hV hD hs
  obtain ⟨_, h0, h1, _⟩ := hV
  obtain ⟨_, h4, h2, h3⟩ := hD
  have := (h1 s hs).1
  unfold m_ea
  rw [ni_sub (by omega) (by omega), e, h4]
theorem v_la {s : Nat} (hV : Vn d n (Mm.1 (20, 0, 0))) (hD : yD d Mc Mm) (hs : s < 5) : (m_la Mm s).toInt = (Mm.1 (20, 0, 0) 0).toInt + (Mm.1 (20, 0, 0) (1 + s)).toInt + d := by
  have e := v_rd hV hD hs
  obtain ⟨_, h0, h1, _⟩ := hV
  obtain ⟨_, h4, h2, h3⟩ := hD
  have := (h1 s hs).1
  unfold m_la
  rw [ni_add (by omega) (by omega), e, h4]
theorem b_rd {s : Nat} (hR : yRel 0 Mc (Mm.1 (20, 0, 0))) (hs : s < 5) : c_rd Mc s = m_rd Mm s := by
  unfold c_rd m_rd
  rw [hR.1.1, (hR.2.1 s hs).1]
theorem b_ea {s : Nat} (hR : yRel 0 Mc (Mm.1 (20, 0, 0))) (hD : yD d Mc Mm) (hs : s < 5) : c_ea Mc s = m_ea Mm s := by
  unfold c_ea m_ea m_rd
  rw [hR.1.1, (hR.2.1 s hs).1, hD.1]
theorem b_la {s : Nat} (hR : yRel 0 Mc (Mm.1 (20, 0, 0))) (hD : yD d Mc Mm) (hs : s < 5) : c_la Mc s = m_la Mm s := by
  unfold c_la m_la m_rd
  rw [hR.1.1, (hR.2.1 s hs).1, hD.1]
theorem b_re {a b : Nat} (hR : yRel 0 Mc (Mm.1 (20, 0, 0))) (ha : a < 5) (hb : b < 5) : c_re Mc a b = m_re Mm a b := by
  unfold c_re m_re m_ru
  rw [(hR.2.1 a ha).2.1, (hR.2.1 b hb).2.1, hR.2.2.1 _ (by omega), show 11 + (5 * a + b) = 11 + 5 * a + b by omega]
theorem n_m1000 : (-1000 : Int32).toInt = -1000 := by decide
theorem b_lease {s : Nat} (hV : Vn d n (Mm.1 (20, 0, 0))) (hs : s < 5) : (¬ (if Mm.1 (20, 0, 0) (61 + s) = 0 then (-1000 : Int32) else Mm.1 (20, 0, 0) (61 + s)) = -1000) ↔ 0 < Mm.1 (20, 0, 0) (61 + s) := by
  have h := (hV.2.2.1 s hs).2.2.2.2.1
  have z : (0 : Int32).toInt = 0 := rfl
  rw [ni_lt, z]
  by_cases e : Mm.1 (20, 0, 0) (61 + s) = 0
  · rw [if_pos e, e]; simp
  · rw [if_neg e]
    rw [ni_eq, z] at e
    constructor
    · intro _; omega
    · intro _ x
      rw [x, n_m1000] at h
      omega
theorem b_ho {s : Nat} (hR : yRel 0 Mc (Mm.1 (20, 0, 0))) (hV : Vn d n (Mm.1 (20, 0, 0))) (hD : yD d Mc Mm) (hs : s < 5) : c_ho Mc s = m_ha Mm s := by
  unfold c_ho m_ha m_ru
  obtain ⟨_, r3, _, _, _, r7, r8⟩ := hR.2.1 s hs
  rw [b_la hR hD hs, r3, r7, r8]
  have hl := b_lease hV hs
  by_cases e : Mm.1 (20, 0, 0) (61 + s) = 0
  · simp [e]
  · rw [if_neg e] at hl
    rw [if_neg e, if_neg e]
    simp only [hl]
theorem ho_act {s : Nat} (hV : Vn d n (Mm.1 (20, 0, 0))) (hD : yD d Mc Mm) (hs : s < 5) (h : m_ha Mm s = true) : sf_act (al (Mm.1 (20, 0, 0))) s ∧ Mm.1 (20, 0, 0) (6 + s) = 0 := by
  have hl := v_la hV hD hs
  have ho := (hV.2.2.1 s hs).1
  obtain ⟨_, _, h2, h3⟩ := hD
  simp only [m_ha, m_ru, Bool.and_eq_true, decide_eq_true_eq, ni_lt, hl] at h
  have z : (0 : Int32).toInt = 0 := rfl
  rw [z] at h
  refine ⟨⟨?_, ?_⟩, h.1⟩
  · rw [al4 _ hs]; exact h.2.1
  · rw [al0, al5 _ hs]; have := h.2.2; unfold q at this; omega
theorem b_last {s : Nat} {c : Nat} {o : Int32} (hR : yRel 0 Mc (Mm.1 (20, 0, 0))) (hV : Vn d n (Mm.1 (20, 0, 0))) (hs : s < 5) (hc : c < 4) : ro_last Mc 0 s (rn Mc 0 s) c o = if Mm.1 (20, 0, 0) (51 + s) = 0 then o else m_pt Mm s (mn Mm (51 + s) - 1) c := by
  obtain ⟨r1, r2, r3⟩ := hR.2.2.2.1 s hs
  obtain ⟨v1, v2⟩ := Vn_len hV hs
  have e1 : rn Mc 0 s = fl (Mm.1 (20, 0, 0)) (51 + s) := by unfold rn fl; rw [r1]
  unfold ro_last
  rw [e1]
  by_cases z : fl (Mm.1 (20, 0, 0)) (51 + s) = 0
  · rw [if_pos z, if_pos (by rw [v1, z]; rfl)]
  · rw [if_neg z, if_neg (by rw [v1]; intro x; rw [show (0 : Int32) = nI 0 from rfl, ni_eqn (by omega) (by omega)] at x; omega), r3 _ (by omega)]
    show _ = Mm.1 (20, 0, 0) (476 + 4 * (40 * s + (fl (Mm.1 (20, 0, 0)) (51 + s) - 1)) + c)
    exact congrArg (Mm.1 (20, 0, 0)) (by omega)
theorem b_lt {s : Nat} (hR : yRel 0 Mc (Mm.1 (20, 0, 0))) (hV : Vn d n (Mm.1 (20, 0, 0))) (hs : s < 5) : ro_last Mc 0 s (rn Mc 0 s) 0 0 = m_lt Mm s := by
  rw [b_last hR hV hs (by omega)]; rfl
theorem b_rec {s v : Nat} (hR : yRel 0 Mc (Mm.1 (20, 0, 0))) (hV : Vn d n (Mm.1 (20, 0, 0))) (hs : s < 5) (hv : v < 5) : c_rec Mc s v = m_ir Mm s v := by
  obtain ⟨v1, v2⟩ := Vn_len hV hs
  obtain ⟨u1, u2⟩ := Vn_len hV hv
  have e1 : rn Mc 0 s = fl (Mm.1 (20, 0, 0)) (51 + s) := by unfold rn fl; rw [(hR.2.2.2.1 s hs).1]
  have e2 : rn Mc 0 v = fl (Mm.1 (20, 0, 0)) (51 + v) := by unfold rn fl; rw [(hR.2.2.2.1 v hv).1]
  unfold c_rec lo_rec m_ir
  rw [b_lt hR hV hs, b_lt hR hV hv, e1, e2]
  unfold q
  have e3 : (Mm.1 (20, 0, 0) (51 + s) < Mm.1 (20, 0, 0) (51 + v)) = (fl (Mm.1 (20, 0, 0)) (51 + s) < fl (Mm.1 (20, 0, 0)) (51 + v)) := by
    rw [v1, u1, ni_ltn (by omega) (by omega)]
  simp only [e3, Nat.not_lt]
theorem b_tb {s v : Nat} (hR : yRel 0 Mc (Mm.1 (20, 0, 0))) (hV : Vn d n (Mm.1 (20, 0, 0))) (hD : yD d Mc Mm) (hs : s < 5) (hv : v < 5) : c_tb Mc s v = (if m_ip Mm s v = true then q Mm (46 + v) - m_ea Mm v else 0) ∧ (0 < c_tb Mc s v ↔ m_ip Mm s v = true) := by
  have he := v_ea hV hD hv
  obtain ⟨_, r3, _, r5, r6, _, _⟩ := hR.2.1 v hv
  have eb := b_ea hR hD hv
  obtain ⟨_, h0, h1, _⟩ := hV
  obtain ⟨ho, _, _, hp, _⟩ := h1 v hv
  obtain ⟨_, h4, h2, h3⟩ := hD
  have z : (0 : Int32).toInt = 0 := rfl
  unfold c_tb m_ip
  rw [r5, r6, eb]
  unfold q
  by_cases e1 : Mm.1 (20, 0, 0) (41 + v) = -1000
  · simp [e1]
  · rw [if_neg e1]
    by_cases e2 : Mm.1 (20, 0, 0) (41 + v) = nI s
    · simp [e2]
    · rw [if_neg (by simp [e1, e2])]
      have hsub : (Mm.1 (20, 0, 0) (46 + v) - m_ea Mm v).toInt = (Mm.1 (20, 0, 0) (46 + v)).toInt - (m_ea Mm v).toInt := ni_sub (by omega) (by omega)
      have hiff : 0 < Mm.1 (20, 0, 0) (46 + v) - m_ea Mm v ↔ m_ea Mm v < Mm.1 (20, 0, 0) (46 + v) := by
        rw [ni_lt, ni_lt, hsub, z]; omega
      by_cases e3 : m_ea Mm v < Mm.1 (20, 0, 0) (46 + v)
      · rw [if_pos (hiff.mpr e3)]
        simp [e1, e2, e3, hiff.mpr e3]
      · rw [if_neg (fun x => e3 (hiff.mp x))]
        simp [e1, e2, e3]
theorem b_too {s v : Nat} {t : Int32} (hR : yRel 0 Mc (Mm.1 (20, 0, 0))) (hv : v < 5) : c_too Mc s v t = decide (¬ v = s ∧ ¬ q Mm (36 + v) < t) := by
  unfold c_too
  rw [(hR.2.1 v hv).2.2.1]
  simp
theorem b_an {s v : Nat} {t : Int32} (hR : yRel 0 Mc (Mm.1 (20, 0, 0))) (hV : Vn d n (Mm.1 (20, 0, 0))) (hD : yD d Mc Mm) (hs : s < 5) (hv : v < 5) : c_an Mc s v (c_too Mc s v t) true = m_at Mm s v t := by
  unfold c_an m_at
  rw [b_re hR hs hv, b_too hR hv, b_rec hR hV hs hv]
  have h := (b_tb hR hV hD hs hv).2
  by_cases e1 : m_re Mm s v = false
  · rw [if_pos e1, if_pos e1]
  · rw [if_neg e1, if_neg e1]
    by_cases e2 : ¬ v = s ∧ ¬ q Mm (36 + v) < t
    · rw [if_pos (by simp [e2]), if_pos e2]
    · rw [if_neg (by simpa using e2), if_neg e2]
      by_cases e3 : m_ip Mm s v = true
      · rw [if_pos (h.mpr e3), if_pos e3]
      · rw [if_neg (fun x => e3 (h.mp x)), if_neg e3]
        cases m_ir Mm s v <;> simp
theorem b_pa {s v : Nat} (hR : yRel 0 Mc (Mm.1 (20, 0, 0))) (hV : Vn d n (Mm.1 (20, 0, 0))) (hD : yD d Mc Mm) (hs : s < 5) (hv : v < 5) (hl : ¬ q Mm (61 + s) = 0) : c_pa Mc s v = m_ar Mm s v (q Mm (61 + s)) := by
  unfold c_pa c_an m_ar
  obtain ⟨_, _, r4, r5, _⟩ := hR.2.1 v hv
  obtain ⟨_, _, _, _, _, r7, _⟩ := hR.2.1 s hs
  rw [b_re hR hs hv, b_rec hR hV hs hv, r4, r5, r7, if_neg hl]
  have h := (b_tb hR hV hD hs hv).2
  by_cases e1 : m_re Mm s v = false
  · rw [if_pos e1, if_pos e1]
  · rw [if_neg e1, if_neg e1]
    by_cases e2 : q Mm (61 + s) < q Mm (36 + v)
    · rw [if_pos (by simpa using e2), if_pos e2]
    · rw [if_neg (by simpa using e2), if_neg e2]
      by_cases e3 : m_ip Mm s v = true
      · rw [if_pos (h.mpr e3), if_pos e3]
      · rw [if_neg (fun x => e3 (h.mp x)), if_neg e3]
        by_cases e4 : q Mm (41 + v) = nI s
        · simp [e4]
        · cases m_ir Mm s v <;> simp [e4]
end YB
