theorem Sf_c {f f' : Nat → Int32} (hS : Sf (al f) (an f)) (h : ∀ i, i = 0 ∨ (36 ≤ i ∧ i < 1437) → f' i = f i) : Sf (al f') (an f') := by
  obtain ⟨c0, c1, c2⟩ := an_c (f := f) (f' := f') (fun i hi => h i (by omega))
  have lo := al_lo (f := f) (f' := f') (fun i hi => h i (by omega))
  exact sf_less 0 (al_hi (fun i a b => h i (by omega))) c0 c1 c2 hS (by rw [lo 0 (by omega)]; exact Int.le_refl _) (fun u hu => Or.inr ⟨lo 4 (by omega) u, lo 5 (by omega) u⟩) (fun u hu => Or.inl ⟨lo 2 (by omega) u, lo 3 (by omega) u⟩) (fun u hu => by rw [lo 1 (by omega)]; exact Int.le_refl _)
theorem yR_o {M M' : zM} {f f' : Nat → Int32} (h : yR 0 M f) (hM : ∀ u, M'.1 (11, 0, 0) u = M.1 (11, 0, 0) u) (hf : ∀ i, 1729 ≤ i → i < 1735 → f' i = f i) : yR 0 M' f' := yR_c h hM hf
section MI
variable {d : Int} {n s : Nat} {M Mc Mm : zM} {f : Nat → Int32} {x y a b c u : Int32}
theorem zo {r0 r : zR} {k0 k : Nat} (h : ¬ r = r0) : (zz_set M r0 k0 x).1 r k = M.1 r k := by rw [zz_gs, if_neg (fun z => h z.1)]
theorem rv_link (h : RV d n M f) {i : Nat} (hi : i < 25) : RV d n (zz_set M (10, 0, 0) i x) (up f (11 + i) x) := by
  obtain ⟨⟨a1, a2, a3, a4, a5, a6, a7, a8, a9⟩, hV⟩ := h
  have co : ∀ (r : zR) (k : Nat), ¬ r = (10, 0, 0) → (zz_set M (10, 0, 0) i x).1 r k = M.1 r k := fun r k b1 => zo b1
  have fo : ∀ j, ¬ j = 11 + i → up f (11 + i) x j = f j := fun j b1 => up_n b1
  refine ⟨⟨?_, ?_, ?_, ?_, ?_, ?_, ?_, ?_, ?_⟩, ?_⟩
  · exact yT_c a1 (fun i => co _ _ (by first | (simp; done) | (simp; omega))) (fo _ (by omega)) (fo _ (by omega)) (fo _ (by omega))
  · exact yS_c a2 (fun u hu i => co _ _ (by first | (simp; done) | (simp; omega))) (fun i hi => fo _ (by omega))
  · intro j hj
    by_cases z : j = i
    · subst z; rw [up_e, zz_gs, if_pos ⟨rfl, rfl⟩]
    · rw [up_n (by omega), zz_gs, if_neg (fun y => z y.2)]; exact a3 j hj
  · exact yL_c a4 (fun u hu => (Vn_len hV hu).2) (fun u hu => co _ _ (by first | (simp; done) | (simp; omega))) (fun u hu => co _ _ (by first | (simp; done) | (simp; omega))) (fun u hu i => co _ _ (by first | (simp; done) | (simp; omega))) (fun i hi => fo _ (by omega))
  · exact yH_c a5 (Vn_hist hV).2 (co _ _ (by first | (simp; done) | (simp; omega))) (co _ _ (by first | (simp; done) | (simp; omega))) (fun i => co _ _ (by first | (simp; done) | (simp; omega))) (fun i _ _ => fo _ (by omega))
  · exact yO_c a6 (fun u hu => (Vn_due hV hu).2) (fun u hu => co _ _ (by first | (simp; done) | (simp; omega))) (fun u hu i => co _ _ (by first | (simp; done) | (simp; omega))) (fun i _ _ => fo _ (by omega))
  · exact yG_c a7 (Vn_kept hV).2 (co _ _ (by first | (simp; done) | (simp; omega))) (fun i => co _ _ (by first | (simp; done) | (simp; omega))) (fun i _ _ _ => fo _ (by omega))
  · exact yC_c a8 (fun i => co _ _ (by first | (simp; done) | (simp; omega))) (fun i => co _ _ (by first | (simp; done) | (simp; omega))) (fun i _ _ => fo _ (by omega))
  · exact yM_c a9 (Vn_sent hV).2 (co _ _ (by first | (simp; done) | (simp; omega))) (fun i => co _ _ (by first | (simp; done) | (simp; omega))) (fun i _ _ => fo _ (by omega))
  · exact Vn_g hV (fun i hi => Or.inl (fo _ (by unfold mwi at hi; omega))) (by rw [fo _ (by omega)]; exact hV.2.1) (fun u hu => by unfold Vs; rw [fo _ (by omega), fo _ (by omega), fo _ (by omega), fo _ (by omega), fo _ (by omega)]; exact hV.2.2.1 u hu) (fun i _ _ => fo _ (by omega))
theorem rv_ref (h : RV d n M f)  : RV d n (zz_set M (4, 0, 0) 11 x) (up f (1728) x) := by
  obtain ⟨⟨a1, a2, a3, a4, a5, a6, a7, a8, a9⟩, hV⟩ := h
  have co : ∀ (r : zR) (k : Nat), ¬ r = (4, 0, 0) → (zz_set M (4, 0, 0) 11 x).1 r k = M.1 r k := fun r k b1 => zo b1
  have fo : ∀ j, ¬ j = 1728 → up f (1728) x j = f j := fun j b1 => up_n b1
  refine ⟨⟨?_, ?_, ?_, ?_, ?_, ?_, ?_, ?_, ?_⟩, ?_⟩
  · refine ⟨?_, ?_, ?_⟩
    · rw [up_n (by omega), zz_gs, if_neg (fun y => absurd y.2 (by decide))]; exact a1.1
    · rw [up_n (by omega), zz_gs, if_neg (fun y => absurd y.2 (by decide))]; exact a1.2.1
    · rw [up_e, zz_gs, if_pos ⟨rfl, rfl⟩]
  · exact yS_c a2 (fun u hu i => co _ _ (by first | (simp; done) | (simp; omega))) (fun i hi => fo _ (by omega))
  · exact yK_c a3 (fun i => co _ _ (by first | (simp; done) | (simp; omega))) (fun i _ _ => fo _ (by omega))
  · exact yL_c a4 (fun u hu => (Vn_len hV hu).2) (fun u hu => co _ _ (by first | (simp; done) | (simp; omega))) (fun u hu => co _ _ (by first | (simp; done) | (simp; omega))) (fun u hu i => co _ _ (by first | (simp; done) | (simp; omega))) (fun i hi => fo _ (by omega))
  · exact yH_c a5 (Vn_hist hV).2 (co _ _ (by first | (simp; done) | (simp; omega))) (co _ _ (by first | (simp; done) | (simp; omega))) (fun i => co _ _ (by first | (simp; done) | (simp; omega))) (fun i _ _ => fo _ (by omega))
  · exact yO_c a6 (fun u hu => (Vn_due hV hu).2) (fun u hu => co _ _ (by first | (simp; done) | (simp; omega))) (fun u hu i => co _ _ (by first | (simp; done) | (simp; omega))) (fun i _ _ => fo _ (by omega))
  · exact yG_c a7 (Vn_kept hV).2 (co _ _ (by first | (simp; done) | (simp; omega))) (fun i => co _ _ (by first | (simp; done) | (simp; omega))) (fun i _ _ _ => fo _ (by omega))
  · exact yC_c a8 (fun i => co _ _ (by first | (simp; done) | (simp; omega))) (fun i => co _ _ (by first | (simp; done) | (simp; omega))) (fun i _ _ => fo _ (by omega))
  · exact yM_c a9 (Vn_sent hV).2 (co _ _ (by first | (simp; done) | (simp; omega))) (fun i => co _ _ (by first | (simp; done) | (simp; omega))) (fun i _ _ => fo _ (by omega))
  · exact Vn_g hV (fun i hi => Or.inl (fo _ (by unfold mwi at hi; omega))) (by rw [fo _ (by omega)]; exact hV.2.1) (fun u hu => by unfold Vs; rw [fo _ (by omega), fo _ (by omega), fo _ (by omega), fo _ (by omega), fo _ (by omega)]; exact hV.2.2.1 u hu) (fun i _ _ => fo _ (by omega))
theorem rv_ever (h : RV d n M f)  : RV d n (zz_set M (4, 0, 0) 10 x) (up f (1438) x) := by
  obtain ⟨⟨a1, a2, a3, a4, a5, a6, a7, a8, a9⟩, hV⟩ := h
  have co : ∀ (r : zR) (k : Nat), ¬ r = (4, 0, 0) → (zz_set M (4, 0, 0) 10 x).1 r k = M.1 r k := fun r k b1 => zo b1
  have fo : ∀ j, ¬ j = 1438 → up f (1438) x j = f j := fun j b1 => up_n b1
  refine ⟨⟨?_, ?_, ?_, ?_, ?_, ?_, ?_, ?_, ?_⟩, ?_⟩
  · refine ⟨?_, ?_, ?_⟩
    · rw [up_n (by omega), zz_gs, if_neg (fun y => absurd y.2 (by decide))]; exact a1.1
    · rw [up_e, zz_gs, if_pos ⟨rfl, rfl⟩]
    · rw [up_n (by omega), zz_gs, if_neg (fun y => absurd y.2 (by decide))]; exact a1.2.2
  · exact yS_c a2 (fun u hu i => co _ _ (by first | (simp; done) | (simp; omega))) (fun i hi => fo _ (by omega))
  · exact yK_c a3 (fun i => co _ _ (by first | (simp; done) | (simp; omega))) (fun i _ _ => fo _ (by omega))
  · exact yL_c a4 (fun u hu => (Vn_len hV hu).2) (fun u hu => co _ _ (by first | (simp; done) | (simp; omega))) (fun u hu => co _ _ (by first | (simp; done) | (simp; omega))) (fun u hu i => co _ _ (by first | (simp; done) | (simp; omega))) (fun i hi => fo _ (by omega))
  · exact yH_c a5 (Vn_hist hV).2 (co _ _ (by first | (simp; done) | (simp; omega))) (co _ _ (by first | (simp; done) | (simp; omega))) (fun i => co _ _ (by first | (simp; done) | (simp; omega))) (fun i _ _ => fo _ (by omega))
  · exact yO_c a6 (fun u hu => (Vn_due hV hu).2) (fun u hu => co _ _ (by first | (simp; done) | (simp; omega))) (fun u hu i => co _ _ (by first | (simp; done) | (simp; omega))) (fun i _ _ => fo _ (by omega))
  · exact yG_c a7 (Vn_kept hV).2 (co _ _ (by first | (simp; done) | (simp; omega))) (fun i => co _ _ (by first | (simp; done) | (simp; omega))) (fun i _ _ _ => fo _ (by omega))
  · exact yC_c a8 (fun i => co _ _ (by first | (simp; done) | (simp; omega))) (fun i => co _ _ (by first | (simp; done) | (simp; omega))) (fun i _ _ => fo _ (by omega))
  · exact yM_c a9 (Vn_sent hV).2 (co _ _ (by first | (simp; done) | (simp; omega))) (fun i => co _ _ (by first | (simp; done) | (simp; omega))) (fun i _ _ => fo _ (by omega))
  · exact Vn_g hV (fun i hi => Or.inl (fo _ (by unfold mwi at hi; omega))) (by rw [fo _ (by omega)]; exact hV.2.1) (fun u hu => by unfold Vs; rw [fo _ (by omega), fo _ (by omega), fo _ (by omega), fo _ (by omega), fo _ (by omega)]; exact hV.2.2.1 u hu) (fun i _ _ => fo _ (by omega))
theorem rv_now (h : RV d n M f) (hx : 0 ≤ x.toInt ∧ x.toInt ≤ 100000) : RV d n (zz_set M (4, 0, 0) 9 x) (up f (0) x) := by
  obtain ⟨⟨a1, a2, a3, a4, a5, a6, a7, a8, a9⟩, hV⟩ := h
  have co : ∀ (r : zR) (k : Nat), ¬ r = (4, 0, 0) → (zz_set M (4, 0, 0) 9 x).1 r k = M.1 r k := fun r k b1 => zo b1
  have fo : ∀ j, ¬ j = 0 → up f (0) x j = f j := fun j b1 => up_n b1
  refine ⟨⟨?_, ?_, ?_, ?_, ?_, ?_, ?_, ?_, ?_⟩, ?_⟩
  · refine ⟨?_, ?_, ?_⟩
    · rw [up_e, zz_gs, if_pos ⟨rfl, rfl⟩]
    · rw [up_n (by omega), zz_gs, if_neg (fun y => absurd y.2 (by decide))]; exact a1.2.1
    · rw [up_n (by omega), zz_gs, if_neg (fun y => absurd y.2 (by decide))]; exact a1.2.2
  · exact yS_c a2 (fun u hu i => co _ _ (by first | (simp; done) | (simp; omega))) (fun i hi => fo _ (by omega))
  · exact yK_c a3 (fun i => co _ _ (by first | (simp; done) | (simp; omega))) (fun i _ _ => fo _ (by omega))
  · exact yL_c a4 (fun u hu => (Vn_len hV hu).2) (fun u hu => co _ _ (by first | (simp; done) | (simp; omega))) (fun u hu => co _ _ (by first | (simp; done) | (simp; omega))) (fun u hu i => co _ _ (by first | (simp; done) | (simp; omega))) (fun i hi => fo _ (by omega))
  · exact yH_c a5 (Vn_hist hV).2 (co _ _ (by first | (simp; done) | (simp; omega))) (co _ _ (by first | (simp; done) | (simp; omega))) (fun i => co _ _ (by first | (simp; done) | (simp; omega))) (fun i _ _ => fo _ (by omega))
  · exact yO_c a6 (fun u hu => (Vn_due hV hu).2) (fun u hu => co _ _ (by first | (simp; done) | (simp; omega))) (fun u hu i => co _ _ (by first | (simp; done) | (simp; omega))) (fun i _ _ => fo _ (by omega))
  · exact yG_c a7 (Vn_kept hV).2 (co _ _ (by first | (simp; done) | (simp; omega))) (fun i => co _ _ (by first | (simp; done) | (simp; omega))) (fun i _ _ _ => fo _ (by omega))
  · exact yC_c a8 (fun i => co _ _ (by first | (simp; done) | (simp; omega))) (fun i => co _ _ (by first | (simp; done) | (simp; omega))) (fun i _ _ => fo _ (by omega))
  · exact yM_c a9 (Vn_sent hV).2 (co _ _ (by first | (simp; done) | (simp; omega))) (fun i => co _ _ (by first | (simp; done) | (simp; omega))) (fun i _ _ => fo _ (by omega))
  · exact Vn_g hV (fun i hi => Or.inl (fo _ (by unfold mwi at hi; omega))) (by rw [up_e]; exact hx) (fun u hu => by unfold Vs; rw [fo _ (by omega), fo _ (by omega), fo _ (by omega), fo _ (by omega), fo _ (by omega)]; exact hV.2.2.1 u hu) (fun i _ _ => fo _ (by omega))
theorem rv_cv (h : RV d n M f) {c : Nat} (hc : c < 4) : RV d n (zz_set M (12, 0, 0) c x) (up f (1639 + 2 * c) x) := by
  obtain ⟨⟨a1, a2, a3, a4, a5, a6, a7, a8, a9⟩, hV⟩ := h
  have co : ∀ (r : zR) (k : Nat), ¬ r = (12, 0, 0) → (zz_set M (12, 0, 0) c x).1 r k = M.1 r k := fun r k b1 => zo b1
  have fo : ∀ j, ¬ j = 1639 + 2 * c → up f (1639 + 2 * c) x j = f j := fun j b1 => up_n b1
  refine ⟨⟨?_, ?_, ?_, ?_, ?_, ?_, ?_, ?_, ?_⟩, ?_⟩
  · exact yT_c a1 (fun i => co _ _ (by first | (simp; done) | (simp; omega))) (fo _ (by omega)) (fo _ (by omega)) (fo _ (by omega))
  · exact yS_c a2 (fun u hu i => co _ _ (by first | (simp; done) | (simp; omega))) (fun i hi => fo _ (by omega))
  · exact yK_c a3 (fun i => co _ _ (by first | (simp; done) | (simp; omega))) (fun i _ _ => fo _ (by omega))
  · exact yL_c a4 (fun u hu => (Vn_len hV hu).2) (fun u hu => co _ _ (by first | (simp; done) | (simp; omega))) (fun u hu => co _ _ (by first | (simp; done) | (simp; omega))) (fun u hu i => co _ _ (by first | (simp; done) | (simp; omega))) (fun i hi => fo _ (by omega))
  · exact yH_c a5 (Vn_hist hV).2 (co _ _ (by first | (simp; done) | (simp; omega))) (co _ _ (by first | (simp; done) | (simp; omega))) (fun i => co _ _ (by first | (simp; done) | (simp; omega))) (fun i _ _ => fo _ (by omega))
  · exact yO_c a6 (fun u hu => (Vn_due hV hu).2) (fun u hu => co _ _ (by first | (simp; done) | (simp; omega))) (fun u hu i => co _ _ (by first | (simp; done) | (simp; omega))) (fun i _ _ => fo _ (by omega))
  · exact yG_c a7 (Vn_kept hV).2 (co _ _ (by first | (simp; done) | (simp; omega))) (fun i => co _ _ (by first | (simp; done) | (simp; omega))) (fun i _ _ _ => fo _ (by omega))
  · intro e he
    rw [zo (r := (13, 0, 0)) (by simp), up_n (i := 1639 + 2 * c) (j := 1639 + 2 * e + 1) (by omega)]
    by_cases z : e = c
    · subst z; rw [up_e, zz_gs, if_pos ⟨rfl, rfl⟩]; exact ⟨rfl, (a8 e he).2⟩
    · rw [up_n (by omega), zz_gs, if_neg (fun y => z y.2)]; exact a8 e he
  · exact yM_c a9 (Vn_sent hV).2 (co _ _ (by first | (simp; done) | (simp; omega))) (fun i => co _ _ (by first | (simp; done) | (simp; omega))) (fun i _ _ => fo _ (by omega))
  · exact Vn_g hV (fun i hi => Or.inl (fo _ (by unfold mwi at hi; omega))) (by rw [fo _ (by omega)]; exact hV.2.1) (fun u hu => by unfold Vs; rw [fo _ (by omega), fo _ (by omega), fo _ (by omega), fo _ (by omega), fo _ (by omega)]; exact hV.2.2.1 u hu) (fun i _ _ => fo _ (by omega))
theorem rv_ct (h : RV d n M f) {c : Nat} (hc : c < 4) : RV d n (zz_set M (13, 0, 0) c x) (up f (1639 + 2 * c + 1) x) := by
  obtain ⟨⟨a1, a2, a3, a4, a5, a6, a7, a8, a9⟩, hV⟩ := h
  have co : ∀ (r : zR) (k : Nat), ¬ r = (13, 0, 0) → (zz_set M (13, 0, 0) c x).1 r k = M.1 r k := fun r k b1 => zo b1
  have fo : ∀ j, ¬ j = 1639 + 2 * c + 1 → up f (1639 + 2 * c + 1) x j = f j := fun j b1 => up_n b1
  refine ⟨⟨?_, ?_, ?_, ?_, ?_, ?_, ?_, ?_, ?_⟩, ?_⟩
  · exact yT_c a1 (fun i => co _ _ (by first | (simp; done) | (simp; omega))) (fo _ (by omega)) (fo _ (by omega)) (fo _ (by omega))
  · exact yS_c a2 (fun u hu i => co _ _ (by first | (simp; done) | (simp; omega))) (fun i hi => fo _ (by omega))
  · exact yK_c a3 (fun i => co _ _ (by first | (simp; done) | (simp; omega))) (fun i _ _ => fo _ (by omega))
  · exact yL_c a4 (fun u hu => (Vn_len hV hu).2) (fun u hu => co _ _ (by first | (simp; done) | (simp; omega))) (fun u hu => co _ _ (by first | (simp; done) | (simp; omega))) (fun u hu i => co _ _ (by first | (simp; done) | (simp; omega))) (fun i hi => fo _ (by omega))
  · exact yH_c a5 (Vn_hist hV).2 (co _ _ (by first | (simp; done) | (simp; omega))) (co _ _ (by first | (simp; done) | (simp; omega))) (fun i => co _ _ (by first | (simp; done) | (simp; omega))) (fun i _ _ => fo _ (by omega))
  · exact yO_c a6 (fun u hu => (Vn_due hV hu).2) (fun u hu => co _ _ (by first | (simp; done) | (simp; omega))) (fun u hu i => co _ _ (by first | (simp; done) | (simp; omega))) (fun i _ _ => fo _ (by omega))
  · exact yG_c a7 (Vn_kept hV).2 (co _ _ (by first | (simp; done) | (simp; omega))) (fun i => co _ _ (by first | (simp; done) | (simp; omega))) (fun i _ _ _ => fo _ (by omega))
  · intro e he
    rw [zo (r := (12, 0, 0)) (by simp), up_n (i := 1639 + 2 * c + 1) (j := 1639 + 2 * e) (by omega)]
    by_cases z : e = c
    · subst z; rw [up_e, zz_gs, if_pos ⟨rfl, rfl⟩]; exact ⟨(a8 e he).1, rfl⟩
    · rw [up_n (by omega), zz_gs, if_neg (fun y => z y.2)]; exact a8 e he
  · exact yM_c a9 (Vn_sent hV).2 (co _ _ (by first | (simp; done) | (simp; omega))) (fun i => co _ _ (by first | (simp; done) | (simp; omega))) (fun i _ _ => fo _ (by omega))
  · exact Vn_g hV (fun i hi => Or.inl (fo _ (by unfold mwi at hi; omega))) (by rw [fo _ (by omega)]; exact hV.2.1) (fun u hu => by unfold Vs; rw [fo _ (by omega), fo _ (by omega), fo _ (by omega), fo _ (by omega), fo _ (by omega)]; exact hV.2.2.1 u hu) (fun i _ _ => fo _ (by omega))
theorem rv_dlv (h : RV d n M f) {m : Nat} (hm : m < fl f 1647) : RV d n (zz_set M (7, 0, 12) (4 * m + 3) 1) (up f (1648 + 4 * m + 3) 1) := by
  obtain ⟨⟨a1, a2, a3, a4, a5, a6, a7, a8, a9⟩, hV⟩ := h
  have co : ∀ (r : zR) (k : Nat), ¬ r = (7, 0, 12) → (zz_set M (7, 0, 12) (4 * m + 3) 1).1 r k = M.1 r k := fun r k b1 => zo b1
  have fo : ∀ j, ¬ j = 1648 + 4 * m + 3 → up f (1648 + 4 * m + 3) 1 j = f j := fun j b1 => up_n b1
  refine ⟨⟨?_, ?_, ?_, ?_, ?_, ?_, ?_, ?_, ?_⟩, ?_⟩
  · exact yT_c a1 (fun i => co _ _ (by first | (simp; done) | (simp; omega))) (fo _ (by omega)) (fo _ (by omega)) (fo _ (by omega))
  · exact yS_c a2 (fun u hu i => co _ _ (by first | (simp; done) | (simp; omega))) (fun i hi => fo _ (by omega))
  · exact yK_c a3 (fun i => co _ _ (by first | (simp; done) | (simp; omega))) (fun i _ _ => fo _ (by omega))
  · exact yL_c a4 (fun u hu => (Vn_len hV hu).2) (fun u hu => co _ _ (by first | (simp; done) | (simp; omega))) (fun u hu => co _ _ (by first | (simp; done) | (simp; omega))) (fun u hu i => co _ _ (by first | (simp; done) | (simp; omega))) (fun i hi => fo _ (by omega))
  · exact yH_c a5 (Vn_hist hV).2 (co _ _ (by first | (simp; done) | (simp; omega))) (co _ _ (by first | (simp; done) | (simp; omega))) (fun i => co _ _ (by first | (simp; done) | (simp; omega))) (fun i _ _ => fo _ (by omega))
  · exact yO_c a6 (fun u hu => (Vn_due hV hu).2) (fun u hu => co _ _ (by first | (simp; done) | (simp; omega))) (fun u hu i => co _ _ (by first | (simp; done) | (simp; omega))) (fun i _ _ => fo _ (by omega))
  · exact yG_c a7 (Vn_kept hV).2 (co _ _ (by first | (simp; done) | (simp; omega))) (fun i => co _ _ (by first | (simp; done) | (simp; omega))) (fun i _ _ _ => fo _ (by omega))
  · exact yC_c a8 (fun i => co _ _ (by first | (simp; done) | (simp; omega))) (fun i => co _ _ (by first | (simp; done) | (simp; omega))) (fun i _ _ => fo _ (by omega))
  · obtain ⟨b1, b2⟩ := a9
    refine ⟨by rw [co _ _ (by simp), fo _ (by omega)]; exact b1, fun k hk => ?_⟩
    rw [fl_c (fo 1647 (by omega))] at hk
    obtain ⟨c1, c2, c3, c4⟩ := b2 k hk
    rw [fo _ (by omega), fo _ (by omega), fo _ (by omega), zz_gs, if_neg (fun y => absurd y.2 (by omega)), zz_gs, if_neg (fun y => absurd y.2 (by omega)), zz_gs, if_neg (fun y => absurd y.2 (by omega))]
    refine ⟨c1, c2, c3, ?_⟩
    by_cases z : k = m
    · subst z; rw [up_e, zz_gs, if_pos ⟨rfl, rfl⟩]
    · rw [up_n (by omega), zz_gs, if_neg (fun y => absurd y.2 (by omega))]; exact c4
  · obtain ⟨v1, v2, v3, v4⟩ := hV
    refine ⟨fun i hi => ?_, by rw [fo _ (by omega)]; exact v2, fun u hu => by rw [fo _ (by omega), fo _ (by omega), fo _ (by omega), fo _ (by omega), fo _ (by omega)]; exact v3 u hu, fun k hk => ?_⟩
    · have e : up f (1648 + 4 * m + 3) 1 i = f i := fo _ (by unfold mwi at hi; omega)
      rw [fl_c e, e]; exact v1 i hi
    · rw [fl_c (fo 1647 (by omega))] at hk
      rw [fo _ (by omega)]
      refine ⟨(v4 k hk).1, ?_⟩
      by_cases z : k = m
      · subst z; rw [up_e]; exact Or.inr rfl
      · rw [fo _ (by omega)]; exact (v4 k hk).2
theorem rv_due0 (h : RV d n M f) (hs : s < 5) : RV d n (zz_set M (1, 0, 6 + s) 1 0) (up f (71 + s) 0) := by
  obtain ⟨⟨a1, a2, a3, a4, a5, a6, a7, a8, a9⟩, hV⟩ := h
  have co : ∀ (r : zR) (k : Nat), ¬ r = (1, 0, 6 + s) → (zz_set M (1, 0, 6 + s) 1 0).1 r k = M.1 r k := fun r k b1 => zo b1
  have fo : ∀ j, ¬ j = 71 + s → up f (71 + s) 0 j = f j := fun j b1 => up_n b1
  refine ⟨⟨?_, ?_, ?_, ?_, ?_, ?_, ?_, ?_, ?_⟩, ?_⟩
  · exact yT_c a1 (fun i => co _ _ (by first | (simp; done) | (simp; omega))) (fo _ (by omega)) (fo _ (by omega)) (fo _ (by omega))
  · exact yS_c a2 (fun u hu i => co _ _ (by first | (simp; done) | (simp; omega))) (fun i hi => fo _ (by omega))
  · exact yK_c a3 (fun i => co _ _ (by first | (simp; done) | (simp; omega))) (fun i _ _ => fo _ (by omega))
  · exact yL_c a4 (fun u hu => (Vn_len hV hu).2) (fun u hu => co _ _ (by first | (simp; done) | (simp; omega))) (fun u hu => co _ _ (by first | (simp; done) | (simp; omega))) (fun u hu i => co _ _ (by first | (simp; done) | (simp; omega))) (fun i hi => fo _ (by omega))
  · exact yH_c a5 (Vn_hist hV).2 (co _ _ (by first | (simp; done) | (simp; omega))) (co _ _ (by first | (simp; done) | (simp; omega))) (fun i => co _ _ (by first | (simp; done) | (simp; omega))) (fun i _ _ => fo _ (by omega))
  · intro u hu
    by_cases z : u = s
    · subst z
      rw [up_e, zz_gs, if_pos ⟨rfl, rfl⟩]
      refine ⟨rfl, fun k hk => absurd hk ?_⟩
      have e : fl (up f (71 + u) 0) (71 + u) = 0 := fl_n (n := 0) (up_e _ _ _) (by omega)
      omega
    · obtain ⟨b1, b2⟩ := a6 u hu
      have du := (Vn_due hV hu).2
      rw [co _ _ (by simp; omega), fo _ (by omega), fl_c (fo (71 + u) (by omega))]
      refine ⟨b1, fun k hk => ?_⟩
      rw [co _ _ (by simp), co _ _ (by simp), fo _ (by omega), fo _ (by omega)]
      exact b2 k hk
  · exact yG_c a7 (Vn_kept hV).2 (co _ _ (by first | (simp; done) | (simp; omega))) (fun i => co _ _ (by first | (simp; done) | (simp; omega))) (fun i _ _ _ => fo _ (by omega))
  · exact yC_c a8 (fun i => co _ _ (by first | (simp; done) | (simp; omega))) (fun i => co _ _ (by first | (simp; done) | (simp; omega))) (fun i _ _ => fo _ (by omega))
  · exact yM_c a9 (Vn_sent hV).2 (co _ _ (by first | (simp; done) | (simp; omega))) (fun i => co _ _ (by first | (simp; done) | (simp; omega))) (fun i _ _ => fo _ (by omega))
  · refine Vn_g hV (fun i hi => ?_) (by rw [fo _ (by omega)]; exact hV.2.1) (fun u hu => by unfold Vs; rw [fo _ (by omega), fo _ (by omega), fo _ (by omega), fo _ (by omega), fo _ (by omega)]; exact hV.2.2.1 u hu) (fun i _ _ => fo _ (by omega))
    by_cases z : i = 71 + s
    · right; subst z; exact ⟨0, by omega, up_e _ _ _⟩
    · left; exact fo _ z
theorem neg_i {x : Int32} (h : 0 ≤ x.toInt ∧ x.toInt ≤ 20) : (-x).toInt = -x.toInt := by
  rw [Int32.toInt_neg]; exact ni_bm (by omega) (by omega)
theorem x_setClock (h : Ok d n Mc (Mm.1 (20, 0, 0))) (hD : yD d Mc Mm) : (L_setClock Mc a b).1 = (m_setClock Mm a b).1 ∧ Ok d n (L_setClock Mc a b).2 ((m_setClock Mm a b).2.1 (20, 0, 0)) := by
  unfold L_setClock m_setClock
  rw [hD.1]
  by_cases h1 : nsv a ∨ b < -Mm.1 (6, 0, 0) 3 ∨ Mm.1 (6, 0, 0) 3 < b
  · rw [if_pos h1, if_pos h1]; exact ⟨rfl, h⟩
  · have hs := nsv_ix (fun z => h1 (Or.inl z))
    obtain ⟨_, h4, h5, h6⟩ := hD
    have hb1 : ¬ b < -Mm.1 (6, 0, 0) 3 := fun z => h1 (Or.inr (Or.inl z))
    have hb2 : ¬ Mm.1 (6, 0, 0) 3 < b := fun z => h1 (Or.inr (Or.inr z))
    rw [ni_lt, neg_i (by omega)] at hb1
    rw [ni_lt] at hb2
    rw [if_neg h1, if_neg h1]
    dsimp only
    rw [qs_f]
    refine ⟨(h.1.1.2.1 _ hs).1, rv_off h.1 hs (by omega), yR_o h.2.1 (fun u => by simp [zz_gs]) (fun i _ _ => up_n (by omega)), Sf_c h.2.2 (fun i hi => up_n (by omega))⟩
theorem x_setLink (h : Ok d n Mc (Mm.1 (20, 0, 0))) : (L_setLink Mc a b u).1 = (m_setLink Mm a b u).1 ∧ Ok d n (L_setLink Mc a b u).2 ((m_setLink Mm a b u).2.1 (20, 0, 0)) := by
  unfold L_setLink m_setLink
  by_cases h1 : nsv a ∨ nsv b ∨ a = b
  · rw [if_pos h1, if_pos h1]; exact ⟨rfl, h⟩
  · have hs := nsv_ix (fun z => h1 (Or.inl z))
    have hv := nsv_ix (fun z => h1 (Or.inr (Or.inl z)))
    rw [if_neg h1, if_neg h1]
    dsimp only
    rw [qs_f, qs_f, show 11 + 5 * zz_ix a + zz_ix b = 11 + (5 * zz_ix a + zz_ix b) by omega, show 11 + 5 * zz_ix b + zz_ix a = 11 + (5 * zz_ix b + zz_ix a) by omega]
    refine ⟨h.1.1.2.2.1 _ (by omega), rv_link (rv_link h.1 (by omega)) (by omega), yR_o h.2.1 (fun u => by simp [zz_gs]) (fun i _ _ => by rw [up_n (by omega), up_n (by omega)]), Sf_c h.2.2 (fun i hi => by rw [up_n (by omega), up_n (by omega)])⟩
theorem x_setState (h : Ok d n Mc (Mm.1 (20, 0, 0))) : (L_setState Mc a x).1 = (m_setState Mm a x).1 ∧ Ok d n (L_setState Mc a x).2 ((m_setState Mm a x).2.1 (20, 0, 0)) := by
  unfold L_setState m_setState
  by_cases h1 : nsv a ∨ x < 0 ∨ 2 < x
  · rw [if_pos h1, if_pos h1]; exact ⟨rfl, h⟩
  · have hs := nsv_ix (fun z => h1 (Or.inl z))
    rw [if_neg h1, if_neg h1]
    dsimp only
    refine ⟨(h.1.1.2.1 _ hs).2.1, ?_⟩
    unfold se_enter
    by_cases h2 : x = 2
    · rw [if_pos h2, if_pos h2, qs_f, qs_f, qs_f]
      refine ⟨rv_due0 (rv_leaseN (rv_state h.1 hs) hs) hs, yR_o h.2.1 (fun u => by simp [zz_gs, se_pl]) (fun i _ _ => by rw [up_n (by omega), up_n (by omega), up_n (by omega)]), ?_⟩
      have k1 : Sf (al (up (up (Mm.1 (20, 0, 0)) (6 + zz_ix a) x) (61 + zz_ix a) 0)) (an (up (up (Mm.1 (20, 0, 0)) (6 + zz_ix a) x) (61 + zz_ix a) 0)) := by
        have lo : ∀ i, ¬ i = 6 + zz_ix a → ¬ i = 61 + zz_ix a → up (up (Mm.1 (20, 0, 0)) (6 + zz_ix a) x) (61 + zz_ix a) 0 i = Mm.1 (20, 0, 0) i := fun i x y => by rw [up_n y, up_n x]
        obtain ⟨c0, c1, c2⟩ := an_c (f := Mm.1 (20, 0, 0)) (f' := up (up (Mm.1 (20, 0, 0)) (6 + zz_ix a) x) (61 + zz_ix a) 0) (fun i hi => lo i (by omega) (by omega))
        refine sf_less (zz_ix a) (al_hi (fun i x y => lo i (by omega) (by omega))) c0 c1 c2 h.2.2 ?_ (fun u hu => ?_) (fun u hu => ?_) (fun u hu => ?_)
        · rw [al0, al0, lo 0 (by omega) (by omega)]; exact Int.le_refl _
        · by_cases z : u = zz_ix a
          · left
            refine ⟨z, ?_⟩
            rw [al4 _ hu, z, up_e]; rfl
          · right
            rw [al4 _ hu, al4 _ hu, al5 _ hu, al5 _ hu, lo _ (by omega) (by omega), lo _ (by omega) (by omega)]
            exact ⟨rfl, rfl⟩
        · left
          rw [al2 _ hu, al2 _ hu, al3 _ hu, al3 _ hu, lo _ (by omega) (by omega), lo _ (by omega) (by omega)]
          exact ⟨rfl, rfl⟩
        · rw [al1 _ hu, al1 _ hu, lo _ (by omega) (by omega)]; exact Int.le_refl _
      generalize up (up (Mm.1 (20, 0, 0)) (6 + zz_ix a) x) (61 + zz_ix a) 0 = g at *
      have lo : ∀ i, ¬ i = 71 + zz_ix a → up g (71 + zz_ix a) 0 i = g i := fun i y => up_n y
      have hN : an (up g (71 + zz_ix a) 0) 2 (zz_ix a) = 0 := by rw [an2 _ hs]; exact fl_n (n := 0) (up_e _ _ _) (by omega)
      have hk : ∀ k j, al (up g (71 + zz_ix a) 0) k j = al g k j := fun k j => by
        by_cases z : k < 10
        · exact al_lo (fun i hi => lo i (by omega)) k z j
        · exact al_hi (fun i x y => lo i (by omega)) k (by omega) j
      refine sf_owed (d := an g 2 (zz_ix a)) hs k1 (Nat.le_refl _) (fun k _ j => hk k j) (fun u _ _ k _ => ⟨hk _ _, hk _ _⟩) (fun k hk2 => absurd hk2 (by omega)) (fun u hu => ?_) (fun u hu => ?_) (by rw [hN]; omega) (fun u hu hn => ?_)
      · by_cases z : u = 5
        · subst z; rw [an5, an5]; exact fl_c (lo _ (by omega))
        · rw [an0 _ (by omega), an0 _ (by omega)]; exact fl_c (lo _ (by omega))
      · rw [an1 _ hu, an1 _ hu]; exact fl_c (lo _ (by omega))
      · rw [an2 _ hu, an2 _ hu]; exact fl_c (lo _ (by omega))
    · rw [if_neg h2, if_neg h2, qs_f]
      exact ⟨rv_state h.1 hs, yR_o h.2.1 (fun u => by simp [zz_gs]) (fun i _ _ => up_n (by omega)), Sf_c h.2.2 (fun i hi => up_n (by omega))⟩
def snf (f : Nat → Int32) (k : Nat) (t c v : Int32) : Nat → Int32 := up (up (up (up (up f (1648 + 4 * k) t) (1648 + 4 * k + 1) c) (1648 + 4 * k + 2) v) (1648 + 4 * k + 3) 0) 1647 (nI (k + 1))
theorem sn_rv {k e : Nat} {t v : Int32} (h : RV d n M f) (hk : fl f 1647 = k) (h20 : k < 20) (hc : c = nI e) (he : e < 4) : RV d n (aps M 12 k c v t 0) (snf f k t c v) := by
  obtain ⟨⟨a1, a2, a3, a4, a5, a6, a7, a8, a9⟩, hV⟩ := h
  have co : ∀ (r : zR) (j : Nat), ¬ r = (7, 0, 12) → ¬ r = (1, 0, 12) → (aps M 12 k c v t 0).1 r j = M.1 r j := fun r j b1 b2 => aps_o b1 b2
  have fo : ∀ j, ¬ j = 1647 → ¬ (1648 + 4 * k ≤ j ∧ j < 1652 + 4 * k) → snf f k t c v j = f j := fun j b1 b2 => by
    unfold snf; rw [up_n b1, up_n (by omega), up_n (by omega), up_n (by omega), up_n (by omega)]
  have p : snf f k t c v 1647 = nI (k + 1) ∧ snf f k t c v (1648 + 4 * k) = t ∧ snf f k t c v (1648 + 4 * k + 1) = c ∧ snf f k t c v (1648 + 4 * k + 2) = v ∧ snf f k t c v (1648 + 4 * k + 3) = 0 := by
    unfold snf
    refine ⟨up_e _ _ _, ?_, ?_, ?_, ?_⟩
    · rw [up_n (by omega), up_n (by omega), up_n (by omega), up_n (by omega), up_e]
    · rw [up_n (by omega), up_n (by omega), up_n (by omega), up_e]
    · rw [up_n (by omega), up_n (by omega), up_e]
    · rw [up_n (by omega), up_e]
  obtain ⟨p0, p1, p2, p3, p4⟩ := p
  refine ⟨⟨?_, ?_, ?_, ?_, ?_, ?_, ?_, ?_, ?_⟩, ?_⟩
  · exact yT_c a1 (fun i => co _ _ (by first | (simp; done) | (simp; omega)) (by first | (simp; done) | (simp; omega))) (fo _ (by omega) (by omega)) (fo _ (by omega) (by omega)) (fo _ (by omega) (by omega))
  · exact yS_c a2 (fun u hu i => co _ _ (by first | (simp; done) | (simp; omega)) (by first | (simp; done) | (simp; omega))) (fun i hi => fo _ (by omega) (by omega))
  · exact yK_c a3 (fun i => co _ _ (by first | (simp; done) | (simp; omega)) (by first | (simp; done) | (simp; omega))) (fun i _ _ => fo _ (by omega) (by omega))
  · exact yL_c a4 (fun u hu => (Vn_len hV hu).2) (fun u hu => co _ _ (by first | (simp; done) | (simp; omega)) (by first | (simp; done) | (simp; omega))) (fun u hu => co _ _ (by first | (simp; done) | (simp; omega)) (by first | (simp; done) | (simp; omega))) (fun u hu i => co _ _ (by first | (simp; done) | (simp; omega)) (by first | (simp; done) | (simp; omega))) (fun i hi => fo _ (by omega) (by omega))
  · exact yH_c a5 (Vn_hist hV).2 (co _ _ (by first | (simp; done) | (simp; omega)) (by first | (simp; done) | (simp; omega))) (co _ _ (by first | (simp; done) | (simp; omega)) (by first | (simp; done) | (simp; omega))) (fun i => co _ _ (by first | (simp; done) | (simp; omega)) (by first | (simp; done) | (simp; omega))) (fun i _ _ => fo _ (by omega) (by omega))
  · exact yO_c a6 (fun u hu => (Vn_due hV hu).2) (fun u hu => co _ _ (by first | (simp; done) | (simp; omega)) (by first | (simp; done) | (simp; omega))) (fun u hu i => co _ _ (by first | (simp; done) | (simp; omega)) (by first | (simp; done) | (simp; omega))) (fun i _ _ => fo _ (by omega) (by omega))
  · exact yG_c a7 (Vn_kept hV).2 (co _ _ (by first | (simp; done) | (simp; omega)) (by first | (simp; done) | (simp; omega))) (fun i => co _ _ (by first | (simp; done) | (simp; omega)) (by first | (simp; done) | (simp; omega))) (fun i _ _ _ => fo _ (by omega) (by omega))
  · exact yC_c a8 (fun i => co _ _ (by first | (simp; done) | (simp; omega)) (by first | (simp; done) | (simp; omega))) (fun i => co _ _ (by first | (simp; done) | (simp; omega)) (by first | (simp; done) | (simp; omega))) (fun i _ _ => fo _ (by omega) (by omega))
  · refine ⟨by rw [aps_1, p0], fun j hj => ?_⟩
    rw [fl_n p0 (by omega)] at hj
    rw [aps_7, aps_7, aps_7, aps_7]
    by_cases z : j = k
    · subst z
      rw [p1, p2, p3, p4, if_neg (by omega), if_neg (by omega), if_neg (by omega), if_pos rfl, if_neg (by omega), if_neg (by omega), if_pos rfl, if_neg (by omega), if_pos rfl, if_pos rfl]
      exact ⟨rfl, rfl, rfl, rfl⟩
    · rw [if_neg (by omega), if_neg (by omega), if_neg (by omega), if_neg (by omega), if_neg (by omega), if_neg (by omega), if_neg (by omega), if_neg (by omega), if_neg (by omega), if_neg (by omega), if_neg (by omega), if_neg (by omega), if_neg (by omega), if_neg (by omega), if_neg (by omega), if_neg (by omega), fo _ (by omega) (by omega), fo _ (by omega) (by omega), fo _ (by omega) (by omega), fo _ (by omega) (by omega)]
      exact a9.2 j (by omega)
  · obtain ⟨v1, v2, v3, v4⟩ := hV
    refine ⟨fun i hi => ?_, by rw [fo _ (by omega) (by omega)]; exact v2, fun u hu => by rw [fo _ (by omega) (by omega), fo _ (by omega) (by omega), fo _ (by omega) (by omega), fo _ (by omega) (by omega), fo _ (by omega) (by omega)]; exact v3 u hu, fun j hj => ?_⟩
    · by_cases z : i = 1647
      · subst z; rw [fl_n p0 (by omega)]; exact ⟨p0, by rw [show mwb 1647 = 20 from rfl]; omega⟩
      · have e : snf f k t c v i = f i := fo _ z (by unfold mwi at hi; omega)
        rw [fl_c e, e]; exact v1 i hi
    · rw [fl_n p0 (by omega)] at hj
      by_cases z : j = k
      · subst z; rw [p2, p4]; exact ⟨⟨e, he, hc⟩, Or.inl rfl⟩
      · rw [fo _ (by omega) (by omega), fo _ (by omega) (by omega)]; exact v4 j (by omega)
theorem x_send {v : Int32} (h : Ok d n Mc (Mm.1 (20, 0, 0))) (hD : yD d Mc Mm) : (L_send Mc a c v).1 = (m_send Mm a c v).1 ∧ Ok d n (L_send Mc a c v).2 ((m_send Mm a c v).2.1 (20, 0, 0)) := by
  unfold L_send m_send
  by_cases h1 : nsv a ∨ (c < 0 ∨ 3 < c) ∨ (v < 0 ∨ 999 < v)
  · rw [if_pos h1, if_pos h1]; exact ⟨rfl, h⟩
  · have hs := nsv_ix (fun z => h1 (Or.inl z))
    obtain ⟨e, he, ec⟩ := ni_c4 (fun z => h1 (Or.inr (Or.inl (Or.inl z)))) (fun z => h1 (Or.inr (Or.inl (Or.inr z))))
    rw [if_neg h1, if_neg h1, b_ho h.1.1 h.1.2 hD hs]
    by_cases h2 : m_ha Mm (zz_ix a) = false
    · rw [if_pos h2, if_pos h2]; exact ⟨rfl, h⟩
    · obtain ⟨ha, hl0⟩ := ha_ne h.1.2 hD hs (by simpa using h2)
      obtain ⟨v1, v2⟩ := Vn_sent h.1.2
      have er : rn Mc 0 12 = mn Mm 1647 := by unfold rn mn q; rw [h.1.1.2.2.2.2.2.2.2.2.1]
      have v1' : q Mm 1647 = nI (mn Mm 1647) := v1
      have v2' : mn Mm 1647 ≤ 20 := v2
      have e20 : (nI (mn Mm 1647) = 20) = (mn Mm 1647 = 20) := by rw [show (20 : Int32) = nI 20 from rfl, ni_eqn (by omega) (by omega)]
      rw [if_neg h2, if_neg h2, er, v1', show zz_rl 12 = 80 from rfl]
      simp only [e20]
      by_cases h3 : mn Mm 1647 = 20
      · rw [if_pos (by omega), if_pos h3]; exact ⟨rfl, h⟩
      · rw [if_neg (by omega), if_neg h3]
        dsimp only
        rw [add_aps (by rw [show zz_rl 12 = 80 from rfl]; omega), aps_1, (h.1.1.2.1 _ hs).2.2.2.2.2.1, if_neg hl0, qs_f, qs_f, qs_f, qs_f, qs_f, nI_1]
        refine ⟨?_, sn_rv h.1 rfl (show mn Mm 1647 < 20 by omega) ec he, ?_, ?_⟩
        · rw [show (1 : Int32) = nI 1 from rfl, ni_subn (by omega), Nat.add_sub_cancel]
        · refine yR_o h.2.1 (fun u => aps_o (by simp) (by simp)) (fun i _ _ => ?_)
          rw [up_n (by omega), up_n (by omega), up_n (by omega), up_n (by omega), up_n (by omega)]
        · refine Sf_c h.2.2 (fun i hi => ?_)
          rw [up_n (by omega), up_n (by omega), up_n (by omega), up_n (by omega), up_n (by omega)]
theorem x_deliver (h : Ok d n Mc (Mm.1 (20, 0, 0))) : (L_deliver Mc a).1 = (m_deliver Mm a).1 ∧ Ok d n (L_deliver Mc a).2 ((m_deliver Mm a).2.1 (20, 0, 0)) := by
  unfold L_deliver m_deliver
  have r1 := h.1.1.2.2.2.2.2.2.2.2.1
  obtain ⟨v1, v2⟩ := Vn_sent h.1.2
  rw [r1]
  by_cases h1 : a < 0 ∨ Mm.1 (20, 0, 0) 1647 - 1 < a
  · rw [if_pos h1, if_pos h1]; exact ⟨rfl, h⟩
  · obtain ⟨m, hm, em⟩ := ni_wm v1 (by omega) (fun z => h1 (Or.inl z)) (fun z => h1 (Or.inr z))
    have ei : zz_ix a = m := ni_ix em (by omega)
    obtain ⟨⟨e, he, ec⟩, hdl⟩ := h.1.2.2.2.2 m hm
    obtain ⟨c1, c2, c3, c4⟩ := h.1.1.2.2.2.2.2.2.2.2.2 m hm
    have emn : mn Mm (1648 + 4 * m + 1) = e := by
      show zz_ix (Mm.1 (20, 0, 0) (1648 + 4 * m + 1)) = e
      rw [ec]; exact zz_ixn (by omega)
    rw [if_neg h1, if_neg h1, ei, c4, emn]
    have hd2 : (¬ Mm.1 (20, 0, 0) (1648 + 4 * m + 3) = 0) = (q Mm (1648 + 4 * m + 3) = 1) := by
      unfold q
      rcases hdl with z | z <;> rw [z] <;> decide
    simp only [hd2]
    by_cases h2 : q Mm (1648 + 4 * m + 3) = 1
    · rw [if_pos h2, if_pos h2]; exact ⟨rfl, h⟩
    · rw [if_neg h2, if_neg h2]
      unfold c_br m_dv
      rw [c1, c2, c3, ec, zz_ixn (by omega), (h.1.1.2.2.2.2.2.2.2.1 e he).2]
      have n3 : ¬ (nI e < 0) ∧ ¬ (3 < nI e) := by
        rw [show (0 : Int32) = nI 0 from rfl, show (3 : Int32) = nI 3 from rfl, ni_ltn (by omega) (by omega), ni_ltn (by omega) (by omega)]
        omega
      by_cases h3 : q Mm (1648 + 4 * m) < q Mm (1639 + 2 * e + 1)
      · rw [if_pos (Or.inr (Or.inr h3)), if_pos h3]
        dsimp only
        rw [qs_f, qs_f, h.1.1.1.2.2]
        refine ⟨rfl, rv_ref (rv_dlv h.1 hm), yR_o h.2.1 (fun u => by simp [zz_gs]) (fun i _ _ => ?_), Sf_c h.2.2 (fun i hi => ?_)⟩
        · rw [up_n (by omega), up_n (by omega)]
        · rw [up_n (by omega), up_n (by omega)]
      · rw [if_neg (by
          rintro (z | z | z)
          · exact n3.1 z
          · exact n3.2 z
          · exact h3 z), if_neg h3]
        dsimp only
        rw [qs_f, qs_f, qs_f]
        refine ⟨rfl, rv_ct (rv_cv (rv_dlv h.1 hm) he) he, yR_o h.2.1 (fun u => by simp [zz_gs]) (fun i _ _ => ?_), Sf_c h.2.2 (fun i hi => ?_)⟩
        · rw [up_n (by omega), up_n (by omega), up_n (by omega)]
        · rw [up_n (by omega), up_n (by omega), up_n (by omega)]
end MI
