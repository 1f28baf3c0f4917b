def g0f (f : Nat → Int32) : Nat → Int32 := if f 1437 = 50 then up (fun j => if 1439 ≤ j ∧ j < 1635 then f (j + 4) else f j) 1437 49 else f
def kgf (A : Nat → Int32) (s n : Nat) (x y : Int32) : Nat → Int32 := up (up (up (up (up (up A (1439 + 4 * n) (nI s)) (1439 + 4 * n + 1) x) (1439 + 4 * n + 2) y) (1439 + 4 * n + 3) (A 0)) 1437 (nI (n + 1))) 1438 (A 1438 + 1)
def shf (f : Nat → Int32) (s D : Nat) : Nat → Int32 := fun j => if 276 + 40 * s ≤ j ∧ j < 276 + 40 * s + (D - 1) then f (j + 1) else if 76 + 40 * s ≤ j ∧ j < 76 + 40 * s + (D - 1) then f (j + 1) else up f (71 + s) (nI (D - 1)) j
theorem g0_f (M : zM) : (m_g0 M).1 (20, 0, 0) = g0f (M.1 (20, 0, 0)) := by
  unfold m_g0 g0f
  by_cases h : q M 1437 = 50
  · rw [if_pos h, if_pos h, qs_f]
    refine congrArg (fun g => up g 1437 49) ?_
    funext j
    rw [qgc]
    by_cases z : 1439 ≤ j ∧ j < 1439 + 196
    · rw [if_pos z, if_pos (by omega)]; exact congrArg _ (by omega)
    · rw [if_neg z, if_neg (by omega)]
  · rw [if_neg h, if_neg h]
theorem gi_f {M : zM} {s D : Nat} (hs : s < 5) (hD : mn M (71 + s) = D) (hD1 : D ≤ 40) (hn : mn (m_g0 M) 1437 ≤ 49) : (m_gi M s 0).1 (20, 0, 0) = shf (kgf (g0f (M.1 (20, 0, 0))) s (mn (m_g0 M) 1437) (g0f (M.1 (20, 0, 0)) (76 + 40 * s)) (g0f (M.1 (20, 0, 0)) (276 + 40 * s))) s D := by
  funext j
  unfold m_gi m_g2 m_g1
  rw [hD, Nat.sub_zero, qgc, qgc, qgc]
  simp only [qs_f, g0_f, Nat.add_zero]
  unfold q
  rw [g0_f]
  show _ = shf (kgf _ s (mn (m_g0 M) 1437) _ _) s D j
  have e : up (up (up (up (up (up (up (g0f (M.1 (20, 0, 0))) (1439 + 4 * mn (m_g0 M) 1437) (nI s)) (1439 + 4 * mn (m_g0 M) 1437 + 1) (g0f (M.1 (20, 0, 0)) (76 + 40 * s))) (1439 + 4 * mn (m_g0 M) 1437 + 2) (g0f (M.1 (20, 0, 0)) (276 + 40 * s))) (1439 + 4 * mn (m_g0 M) 1437 + 3) (g0f (M.1 (20, 0, 0)) 0)) 1437 (nI (mn (m_g0 M) 1437 + 1))) 1438 (g0f (M.1 (20, 0, 0)) 1438 + 1)) (71 + s) (nI (D - 1)) = up (kgf (g0f (M.1 (20, 0, 0))) s (mn (m_g0 M) 1437) (g0f (M.1 (20, 0, 0)) (76 + 40 * s)) (g0f (M.1 (20, 0, 0)) (276 + 40 * s))) (71 + s) (nI (D - 1)) := rfl
  rw [e]
  generalize kgf (g0f (M.1 (20, 0, 0))) s (mn (m_g0 M) 1437) (g0f (M.1 (20, 0, 0)) (76 + 40 * s)) (g0f (M.1 (20, 0, 0)) (276 + 40 * s)) = g
  unfold shf
  by_cases z1 : 276 + 40 * s ≤ j ∧ j < 276 + 40 * s + (D - 1)
  · rw [if_pos z1, if_pos z1, if_neg (by omega), up_n (by omega)]; exact congrArg g (by omega)
  · rw [if_neg z1, if_neg z1]
    by_cases z2 : 76 + 40 * s ≤ j ∧ j < 76 + 40 * s + (D - 1)
    · rw [if_pos z2, if_pos z2, up_n (by omega)]; exact congrArg g (by omega)
    · rw [if_neg z2, if_neg z2]
section PA
variable {d : Int} {n s : Nat} {M Mc Mm : zM} {f : Nat → Int32} {x y : Int32}
theorem g0f_o {j : Nat} (h1 : ¬ j = 1437) (h2 : ¬ (1439 ≤ j ∧ j < 1635)) : g0f f j = f j := by
  unfold g0f
  split
  · rw [up_n h1, if_neg h2]
  · rfl
theorem kgf_o {K j : Nat} (h1 : ¬ j = 1437) (h2 : ¬ j = 1438) (h3 : ¬ (1439 + 4 * K ≤ j ∧ j < 1443 + 4 * K)) : kgf f s K x y j = f j := by
  unfold kgf
  rw [up_n h2, up_n h1, up_n (by omega), up_n (by omega), up_n (by omega), up_n (by omega)]
theorem rv_g0 (h : RV d n M f) : RV d n (c_kg0 M) (g0f f) ∧ fl (g0f f) 1437 ≤ 49 := by
  obtain ⟨⟨a1, a2, a3, a4, a5, a6, a7, a8, a9⟩, hV⟩ := h
  obtain ⟨k1, k2⟩ := Vn_kept hV
  have er : rn M 0 11 = fl f 1437 := by unfold rn fl; rw [a7.1]
  unfold c_kg0
  rw [er, show zz_rl 11 = 200 from rfl]
  by_cases z : fl f 1437 = 50
  · have e50 : f 1437 = 50 := by rw [k1, z]; rfl
    rw [if_pos (by omega)]
    unfold ro_drop g0f
    rw [if_neg (by omega), if_pos e50, z]
    have co : ∀ (r : zR) (k : Nat), ¬ r = (7, 0, 11) → ¬ r = (1, 0, 11) → (zz_set (zz_cpy M (7, 0, 11) (7, 0, 11) (4 * 1) 0 (4 * (50 - 1))) (1, 0, 11) 1 (nI (50 - 1))).1 r k = M.1 r k := fun r k b1 b2 => by
      rw [zo b2, zz_gc, if_neg b1]
    have fo : ∀ j, ¬ j = 1437 → ¬ (1439 ≤ j ∧ j < 1635) → up (fun j => if 1439 ≤ j ∧ j < 1635 then f (j + 4) else f j) 1437 49 j = f j := fun j b1 b2 => by
      rw [up_n b1, if_neg b2]
    have e49 : fl (up (fun j => if 1439 ≤ j ∧ j < 1635 then f (j + 4) else f j) 1437 49) 1437 = 49 := fl_n (n := 49) (up_e _ _ _) (by omega)
    refine ⟨⟨⟨?_, ?_, ?_, ?_, ?_, ?_, ?_, ?_, ?_⟩, ?_⟩, by omega⟩
    · exact yT_c a1 (fun i => co _ _ (by first | (simp; done) | (simp; omega)) (by first | (simp; done) | (simp; omega))) (fo _ (by omega) (by omega)) (fo _ (by omega) (by omega)) (fo _ (by omega) (by omega))
    · exact yS_c a2 (fun u hu i => co _ _ (by first | (simp; done) | (simp; omega)) (by first | (simp; done) | (simp; omega))) (fun i hi => fo _ (by omega) (by omega))
    · exact yK_c a3 (fun i => co _ _ (by first | (simp; done) | (simp; omega)) (by first | (simp; done) | (simp; omega))) (fun i _ _ => fo _ (by omega) (by omega))
    · exact yL_c a4 (fun u hu => (Vn_len hV hu).2) (fun u hu => co _ _ (by first | (simp; done) | (simp; omega)) (by first | (simp; done) | (simp; omega))) (fun u hu => co _ _ (by first | (simp; done) | (simp; omega)) (by first | (simp; done) | (simp; omega))) (fun u hu i => co _ _ (by first | (simp; done) | (simp; omega)) (by first | (simp; done) | (simp; omega))) (fun i hi => fo _ (by omega) (by omega))
    · exact yH_c a5 (Vn_hist hV).2 (co _ _ (by first | (simp; done) | (simp; omega)) (by first | (simp; done) | (simp; omega))) (co _ _ (by first | (simp; done) | (simp; omega)) (by first | (simp; done) | (simp; omega))) (fun i => co _ _ (by first | (simp; done) | (simp; omega)) (by first | (simp; done) | (simp; omega))) (fun i _ _ => fo _ (by omega) (by omega))
    · exact yO_c a6 (fun u hu => (Vn_due hV hu).2) (fun u hu => co _ _ (by first | (simp; done) | (simp; omega)) (by first | (simp; done) | (simp; omega))) (fun u hu i => co _ _ (by first | (simp; done) | (simp; omega)) (by first | (simp; done) | (simp; omega))) (fun i _ _ => fo _ (by omega) (by omega))
    · refine ⟨?_, fun i hi => ?_⟩
      · rw [up_e, zz_gs, if_pos ⟨rfl, rfl⟩]; rfl
      · rw [e49] at hi
        rw [zo (by simp), zz_gc, if_pos rfl, pk_cpy_in (by omega) (by omega), up_n (by omega), if_pos (by omega), show 1439 + i + 4 = 1439 + (4 * 1 + (i - 0)) by omega]
        exact a7.2 _ (by omega)
    · exact yC_c a8 (fun i => co _ _ (by first | (simp; done) | (simp; omega)) (by first | (simp; done) | (simp; omega))) (fun i => co _ _ (by first | (simp; done) | (simp; omega)) (by first | (simp; done) | (simp; omega))) (fun i _ _ => fo _ (by omega) (by omega))
    · exact yM_c a9 (Vn_sent hV).2 (co _ _ (by first | (simp; done) | (simp; omega)) (by first | (simp; done) | (simp; omega))) (fun i => co _ _ (by first | (simp; done) | (simp; omega)) (by first | (simp; done) | (simp; omega))) (fun i _ _ => fo _ (by omega) (by omega))
    · refine Vn_g hV (fun i hi => ?_) (by rw [fo _ (by omega) (by omega)]; exact hV.2.1) (fun u hu => by unfold Vs; rw [fo _ (by omega) (by omega), fo _ (by omega) (by omega), fo _ (by omega) (by omega), fo _ (by omega) (by omega), fo _ (by omega) (by omega)]; exact hV.2.2.1 u hu) (fun i _ _ => fo _ (by omega) (by omega))
      by_cases y : i = 1437
      · right; subst y; exact ⟨49, by decide, up_e _ _ _⟩
      · left; exact fo _ y (by unfold mwi at hi; omega)
  · have e50 : ¬ f 1437 = 50 := by
      rw [k1, show (50 : Int32) = nI 50 from rfl, ni_eqn (by omega) (by omega)]; exact z
    have eg : g0f f = f := by unfold g0f; rw [if_neg e50]
    rw [if_neg (by omega), eg]
    exact ⟨⟨⟨a1, a2, a3, a4, a5, a6, a7, a8, a9⟩, hV⟩, by omega⟩
theorem rv_add {K : Nat} (h : RV d n M f) (hK : fl f 1437 = K) (h50 : K ≤ 49) : RV d n (aps M 11 K (nI s) x y (M.1 (4, 0, 0) 9)) (up (up (up (up (up f (1439 + 4 * K) (nI s)) (1439 + 4 * K + 1) x) (1439 + 4 * K + 2) y) (1439 + 4 * K + 3) (f 0)) 1437 (nI (K + 1))) := by
  obtain ⟨⟨a1, a2, a3, a4, a5, a6, a7, a8, a9⟩, hV⟩ := h
  obtain ⟨F, hF⟩ : ∃ F, F = up (up (up (up (up f (1439 + 4 * K) (nI s)) (1439 + 4 * K + 1) x) (1439 + 4 * K + 2) y) (1439 + 4 * K + 3) (f 0)) 1437 (nI (K + 1)) := ⟨_, rfl⟩
  have co : ∀ (r : zR) (k : Nat), ¬ r = (7, 0, 11) → ¬ r = (1, 0, 11) → (aps M 11 K (nI s) x y (M.1 (4, 0, 0) 9)).1 r k = M.1 r k := fun r k b1 b2 => aps_o b1 b2
  have fo : ∀ j, ¬ j = 1437 → ¬ (1439 + 4 * K ≤ j ∧ j < 1443 + 4 * K) → F j = f j := fun j b1 b2 => by
    rw [hF, up_n b1, up_n (by omega), up_n (by omega), up_n (by omega), up_n (by omega)]
  have p0 : F 1437 = nI (K + 1) := by rw [hF, up_e]
  have p1 : F (1439 + 4 * K) = nI s := by rw [hF, up_n (by omega), up_n (by omega), up_n (by omega), up_n (by omega), up_e]
  have p2 : F (1439 + 4 * K + 1) = x := by rw [hF, up_n (by omega), up_n (by omega), up_n (by omega), up_e]
  have p3 : F (1439 + 4 * K + 2) = y := by rw [hF, up_n (by omega), up_n (by omega), up_e]
  have p4 : F (1439 + 4 * K + 3) = f 0 := by rw [hF, up_n (by omega), up_e]
  rw [← hF]
  refine ⟨⟨?_, ?_, ?_, ?_, ?_, ?_, ?_, ?_, ?_⟩, ?_⟩
  · exact yT_c a1 (fun i => co _ _ (by first | (simp; done) | (simp; omega)) (by first | (simp; done) | (simp; omega))) (fo _ (by omega) (by omega)) (fo _ (by omega) (by omega)) (fo _ (by omega) (by omega))
  · exact yS_c a2 (fun u hu i => co _ _ (by first | (simp; done) | (simp; omega)) (by first | (simp; done) | (simp; omega))) (fun i hi => fo _ (by omega) (by omega))
  · exact yK_c a3 (fun i => co _ _ (by first | (simp; done) | (simp; omega)) (by first | (simp; done) | (simp; omega))) (fun i _ _ => fo _ (by omega) (by omega))
  · exact yL_c a4 (fun u hu => (Vn_len hV hu).2) (fun u hu => co _ _ (by first | (simp; done) | (simp; omega)) (by first | (simp; done) | (simp; omega))) (fun u hu => co _ _ (by first | (simp; done) | (simp; omega)) (by first | (simp; done) | (simp; omega))) (fun u hu i => co _ _ (by first | (simp; done) | (simp; omega)) (by first | (simp; done) | (simp; omega))) (fun i hi => fo _ (by omega) (by omega))
  · exact yH_c a5 (Vn_hist hV).2 (co _ _ (by first | (simp; done) | (simp; omega)) (by first | (simp; done) | (simp; omega))) (co _ _ (by first | (simp; done) | (simp; omega)) (by first | (simp; done) | (simp; omega))) (fun i => co _ _ (by first | (simp; done) | (simp; omega)) (by first | (simp; done) | (simp; omega))) (fun i _ _ => fo _ (by omega) (by omega))
  · exact yO_c a6 (fun u hu => (Vn_due hV hu).2) (fun u hu => co _ _ (by first | (simp; done) | (simp; omega)) (by first | (simp; done) | (simp; omega))) (fun u hu i => co _ _ (by first | (simp; done) | (simp; omega)) (by first | (simp; done) | (simp; omega))) (fun i _ _ => fo _ (by omega) (by omega))
  · refine ⟨by rw [aps_1, p0], fun i hi => ?_⟩
    rw [fl_n p0 (by omega)] at hi
    rw [aps_7]
    by_cases c3 : i = 4 * K + 3
    · rw [if_pos c3, c3, show 1439 + (4 * K + 3) = 1439 + 4 * K + 3 by omega, p4]; exact a1.1
    · rw [if_neg c3]
      by_cases c2 : i = 4 * K + 2
      · rw [if_pos c2, c2, show 1439 + (4 * K + 2) = 1439 + 4 * K + 2 by omega, p3]
      · rw [if_neg c2]
        by_cases c1 : i = 4 * K + 1
        · rw [if_pos c1, c1, show 1439 + (4 * K + 1) = 1439 + 4 * K + 1 by omega, p2]
        · rw [if_neg c1]
          by_cases c0 : i = 4 * K
          · rw [if_pos c0, c0, p1]
          · rw [if_neg c0, fo _ (by omega) (by omega)]
            exact a7.2 i (by omega)
  · exact yC_c a8 (fun i => co _ _ (by first | (simp; done) | (simp; omega)) (by first | (simp; done) | (simp; omega))) (fun i => co _ _ (by first | (simp; done) | (simp; omega)) (by first | (simp; done) | (simp; omega))) (fun i _ _ => fo _ (by omega) (by omega))
  · exact yM_c a9 (Vn_sent hV).2 (co _ _ (by first | (simp; done) | (simp; omega)) (by first | (simp; done) | (simp; omega))) (fun i => co _ _ (by first | (simp; done) | (simp; omega)) (by first | (simp; done) | (simp; omega))) (fun i _ _ => fo _ (by omega) (by omega))
  · refine Vn_g hV (fun i hi => ?_) (by rw [fo _ (by omega) (by omega)]; exact hV.2.1) (fun u hu => by unfold Vs; rw [fo _ (by omega) (by omega), fo _ (by omega) (by omega), fo _ (by omega) (by omega), fo _ (by omega) (by omega), fo _ (by omega) (by omega)]; exact hV.2.2.1 u hu) (fun i _ _ => fo _ (by omega) (by omega))
    by_cases y : i = 1437
    · right; subst y; exact ⟨K + 1, by rw [show mwb 1437 = 50 from rfl]; omega, p0⟩
    · left; exact fo _ y (by unfold mwi at hi; omega)
theorem rv_kg (h : RV d n M f) : RV d n (c_kg M (nI s) x y) (kgf (g0f f) s (fl (g0f f) 1437) x y) := by
  obtain ⟨h1, h2⟩ := rv_g0 h
  have er : rn (c_kg0 M) 0 11 = fl (g0f f) 1437 := by unfold rn fl; rw [h1.1.2.2.2.2.2.2.1.1]
  unfold c_kg kgf
  rw [er, add_aps (by rw [show zz_rl 11 = 200 from rfl]; omega)]
  have e4 : (aps (c_kg0 M) 11 (fl (g0f f) 1437) (nI s) x y ((c_kg0 M).1 (4, 0, 0) 9)).1 (4, 0, 0) 10 = g0f f 1438 := by
    rw [aps_o (by simp) (by simp)]; exact h1.1.1.2.1
  rw [e4]
  exact rv_ever (rv_add h1 rfl h2)
/-- as if the first ones of what is owed had been dropped -/
def vs (M : zM) (s e N : Nat) : zM := (fun r i => if r = (7, 0, 6 + s) then M.1 r (i + 4 * e) else if r = (1, 0, 6 + s) ∧ i = 1 then nI (N - e) else M.1 r i, M.2)
theorem vs_g {e N i : Nat} {r : zR} : (vs M s e N).1 r i = if r = (7, 0, 6 + s) then M.1 r (i + 4 * e) else if r = (1, 0, 6 + s) ∧ i = 1 then nI (N - e) else M.1 r i := rfl
theorem vs_o {e N i : Nat} {r : zR} (h1 : ¬ r = (7, 0, 6 + s)) (h2 : ¬ r = (1, 0, 6 + s)) : (vs M s e N).1 r i = M.1 r i := by
  rw [vs_g, if_neg h1, if_neg (fun z => h2 z.1)]
theorem vs_7 {e N i : Nat} : (vs M s e N).1 (7, 0, 6 + s) i = M.1 (7, 0, 6 + s) (i + 4 * e) := if_pos rfl
theorem vs_1 {e N : Nat} : (vs M s e N).1 (1, 0, 6 + s) 1 = nI (N - e) := by
  rw [vs_g, if_neg (by simp), if_pos ⟨rfl, rfl⟩]
theorem vs_s {e N k : Nat} {r0 : zR} {v : Int32} (h1 : ¬ r0 = (7, 0, 6 + s)) (h2 : ¬ r0 = (1, 0, 6 + s)) : vs (zz_set M r0 k v) s e N = zz_set (vs M s e N) r0 k v := by
  refine Prod.ext ?_ rfl
  funext r i
  rw [zz_gs]
  by_cases z : r = r0 ∧ i = k
  · rw [if_pos z, vs_o (by rw [z.1]; exact h1) (by rw [z.1]; exact h2), zz_gs, if_pos z]
  · rw [if_neg z]
    by_cases z7 : r = (7, 0, 6 + s)
    · subst z7; rw [vs_7, vs_7, zo (fun y => h1 y.symm)]
    · by_cases z1 : r = (1, 0, 6 + s)
      · subst z1
        have e7 : ¬ ((1, 0, 6 + s) : zR) = (7, 0, 6 + s) := by simp
        rw [vs_g, vs_g, if_neg e7, if_neg e7, zo (fun y => h2 y.symm)]
      · rw [vs_o z7 z1, vs_o z7 z1, zz_gs, if_neg z]
theorem vs_c {e N sp dp l : Nat} {a0 a1 : zR} (h1 : ¬ a0 = (7, 0, 6 + s)) (h2 : ¬ a0 = (1, 0, 6 + s)) (h3 : ¬ a1 = (7, 0, 6 + s)) (h4 : ¬ a1 = (1, 0, 6 + s)) : vs (zz_cpy M a0 a1 sp dp l) s e N = zz_cpy (vs M s e N) a0 a1 sp dp l := by
  refine Prod.ext ?_ rfl
  funext r i
  rw [zz_gc]
  have k0 : (vs M s e N).1 a0 = M.1 a0 := by funext j; exact vs_o h1 h2
  have k1 : (vs M s e N).1 a1 = M.1 a1 := by funext j; exact vs_o h3 h4
  rw [k0, k1]
  by_cases z : r = a1
  · rw [if_pos z, vs_o (by rw [z]; exact h3) (by rw [z]; exact h4), zz_gc, if_pos z]
  · rw [if_neg z]
    by_cases z7 : r = (7, 0, 6 + s)
    · subst z7; rw [vs_7, vs_7, zz_gc, if_neg z]
    · by_cases z1 : r = (1, 0, 6 + s)
      · subst z1
        have e7 : ¬ ((1, 0, 6 + s) : zR) = (7, 0, 6 + s) := by simp
        rw [vs_g, vs_g, if_neg e7, if_neg e7, zz_gc, if_neg z]
      · rw [vs_o z7 z1, vs_o z7 z1, zz_gc, if_neg z]
theorem vs_kg {e N : Nat} (hs : s < 5) : vs (c_kg M (nI s) x y) s e N = c_kg (vs M s e N) (nI s) x y := by
  have n7 : ∀ j, ¬ j = 6 + s → ¬ ((7, 0, j) : zR) = (7, 0, 6 + s) := fun j h => by simp [h]
  have r11 : rn (vs M s e N) 0 11 = rn M 0 11 := by unfold rn; rw [vs_o (by simp) (by simp; omega)]
  have k0 : vs (c_kg0 M) s e N = c_kg0 (vs M s e N) := by
    unfold c_kg0
    rw [r11]
    split
    · unfold ro_drop
      split
      · rfl
      · rw [vs_s (by simp) (by simp; omega), vs_c (by simp; omega) (by simp) (by simp; omega) (by simp)]
    · rfl
  have r11' : rn (c_kg0 (vs M s e N)) 0 11 = rn (c_kg0 M) 0 11 := by rw [← k0]; unfold rn; rw [vs_o (by simp) (by simp; omega)]
  have ka : ∀ (K : Nat) (w : Int32), vs (ro_add (c_kg0 M) 0 11 K (nI s) x y w) s e N = ro_add (c_kg0 (vs M s e N)) 0 11 K (nI s) x y w := fun K w => by
    unfold ro_add
    split
    · exact k0
    · rw [vs_s (by simp) (by simp; omega), vs_s (by simp; omega) (by simp), vs_s (by simp; omega) (by simp), vs_s (by simp; omega) (by simp), vs_s (by simp; omega) (by simp), k0]
  have e9 : (c_kg0 (vs M s e N)).1 (4, 0, 0) 9 = (c_kg0 M).1 (4, 0, 0) 9 := by rw [← k0, vs_o (by simp) (by simp)]
  unfold c_kg
  rw [vs_s (by simp) (by simp), ka, r11', e9, ← ka, vs_o (by simp) (by simp)]
theorem rv_sh {e N : Nat} (h : RV d n (vs M s e N) f) (hs : s < 5) (he : e < N) (hN : N ≤ 40) : RV d n (vs M s (e + 1) N) (shf f s (N - e)) := by
  obtain ⟨⟨a1, a2, a3, a4, a5, a6, a7, a8, a9⟩, hV⟩ := h
  have co : ∀ (r : zR) (k : Nat), ¬ r = (7, 0, 6 + s) → ¬ r = (1, 0, 6 + s) → (vs M s (e + 1) N).1 r k = (vs M s e N).1 r k := fun r k b1 b2 => by rw [vs_o b1 b2, vs_o b1 b2]
  have fo : ∀ j, ¬ j = 71 + s → ¬ (76 + 40 * s ≤ j ∧ j < 116 + 40 * s) → ¬ (276 + 40 * s ≤ j ∧ j < 316 + 40 * s) → shf f s (N - e) j = f j := fun j b1 b2 b3 => by
    unfold shf; rw [if_neg (by omega), if_neg (by omega), up_n b1]
  have p0 : shf f s (N - e) (71 + s) = nI (N - e - 1) := by unfold shf; rw [if_neg (by omega), if_neg (by omega), up_e]
  have ed : fl f (71 + s) = N - e := by
    have := (a6 s hs).1
    rw [vs_1] at this
    exact fl_n this.symm (by omega)
  refine ⟨⟨?_, ?_, ?_, ?_, ?_, ?_, ?_, ?_, ?_⟩, ?_⟩
  · exact yT_c a1 (fun i => co _ _ (by first | (simp; done) | (simp; omega)) (by first | (simp; done) | (simp; omega))) (fo _ (by omega) (by omega) (by omega)) (fo _ (by omega) (by omega) (by omega)) (fo _ (by omega) (by omega) (by omega))
  · exact yS_c a2 (fun u hu i => co _ _ (by first | (simp; done) | (simp; omega)) (by first | (simp; done) | (simp; omega))) (fun i hi => fo _ (by omega) (by omega) (by omega))
  · exact yK_c a3 (fun i => co _ _ (by first | (simp; done) | (simp; omega)) (by first | (simp; done) | (simp; omega))) (fun i _ _ => fo _ (by omega) (by omega) (by omega))
  · exact yL_c a4 (fun u hu => (Vn_len hV hu).2) (fun u hu => co _ _ (by first | (simp; done) | (simp; omega)) (by first | (simp; done) | (simp; omega))) (fun u hu => co _ _ (by first | (simp; done) | (simp; omega)) (by first | (simp; done) | (simp; omega))) (fun u hu i => co _ _ (by first | (simp; done) | (simp; omega)) (by first | (simp; done) | (simp; omega))) (fun i hi => fo _ (by omega) (by omega) (by omega))
  · exact yH_c a5 (Vn_hist hV).2 (co _ _ (by first | (simp; done) | (simp; omega)) (by first | (simp; done) | (simp; omega))) (co _ _ (by first | (simp; done) | (simp; omega)) (by first | (simp; done) | (simp; omega))) (fun i => co _ _ (by first | (simp; done) | (simp; omega)) (by first | (simp; done) | (simp; omega))) (fun i _ _ => fo _ (by omega) (by omega) (by omega))
  · intro u hu
    have du := (Vn_due hV hu).2
    by_cases z : u = s
    · subst z
      rw [vs_1, p0, fl_n p0 (by omega)]
      refine ⟨by rw [show N - (e + 1) = N - e - 1 by omega], fun k hk => ?_⟩
      have b := (a6 u hu).2 (k + 1) (by omega)
      rw [vs_7, vs_7] at b ⊢
      rw [show 4 * k + 1 + 4 * (e + 1) = 4 * (k + 1) + 1 + 4 * e by omega, show 4 * k + 2 + 4 * (e + 1) = 4 * (k + 1) + 2 + 4 * e by omega, b.1, b.2]
      unfold shf
      rw [if_neg (by omega), if_pos (by omega), if_pos (by omega)]
      exact ⟨congrArg f (by omega), congrArg f (by omega)⟩
    · obtain ⟨b1, b2⟩ := a6 u hu
      rw [co _ _ (by simp) (by simp; omega), fo (71 + u) (by omega) (by omega) (by omega), fl_c (fo (71 + u) (by omega) (by omega) (by omega))]
      refine ⟨b1, fun k hk => ?_⟩
      rw [co _ _ (by simp; omega) (by simp), co _ _ (by simp; omega) (by simp), fo _ (by omega) (by omega) (by omega), fo _ (by omega) (by omega) (by omega)]
      exact b2 k hk
  · exact yG_c a7 (Vn_kept hV).2 (co _ _ (by first | (simp; done) | (simp; omega)) (by first | (simp; done) | (simp; omega))) (fun i => co _ _ (by first | (simp; done) | (simp; omega)) (by first | (simp; done) | (simp; omega))) (fun i _ _ _ => fo _ (by omega) (by omega) (by omega))
  · exact yC_c a8 (fun i => co _ _ (by first | (simp; done) | (simp; omega)) (by first | (simp; done) | (simp; omega))) (fun i => co _ _ (by first | (simp; done) | (simp; omega)) (by first | (simp; done) | (simp; omega))) (fun i _ _ => fo _ (by omega) (by omega) (by omega))
  · exact yM_c a9 (Vn_sent hV).2 (co _ _ (by first | (simp; done) | (simp; omega)) (by first | (simp; done) | (simp; omega))) (fun i => co _ _ (by first | (simp; done) | (simp; omega)) (by first | (simp; done) | (simp; omega))) (fun i _ _ => fo _ (by omega) (by omega) (by omega))
  · refine Vn_g hV (fun i hi => ?_) (by rw [fo _ (by omega) (by omega) (by omega)]; exact hV.2.1) (fun u hu => by unfold Vs; rw [fo _ (by omega) (by omega) (by omega), fo _ (by omega) (by omega) (by omega), fo _ (by omega) (by omega) (by omega), fo _ (by omega) (by omega) (by omega), fo _ (by omega) (by omega) (by omega)]; exact hV.2.2.1 u hu) (fun i _ _ => fo _ (by omega) (by omega) (by omega))
    by_cases y : i = 71 + s
    · right; subst y; exact ⟨N - e - 1, by rw [show mwb (71 + s) = 40 by unfold mwb; rw [if_neg (by omega), if_neg (by omega)]]; omega, p0⟩
    · left; unfold mwi at hi; exact fo _ y (by omega) (by omega)
theorem sf_sh {D : Nat} (hV : Vn d n f) (hS : Sf (al f) (an f)) (hs : s < 5) (hD : fl f (71 + s) = D) (h0 : 0 < D) : Sf (al (shf f s D)) (an (shf f s D)) := by
  have hD2 := (Vn_due hV hs).2
  have fo : ∀ j, ¬ j = 71 + s → ¬ (76 + 40 * s ≤ j ∧ j < 116 + 40 * s) → ¬ (276 + 40 * s ≤ j ∧ j < 316 + 40 * s) → shf f s D j = f j := fun j b1 b2 b3 => by
    unfold shf; rw [if_neg (by omega), if_neg (by omega), up_n b1]
  have p0 : shf f s D (71 + s) = nI (D - 1) := by unfold shf; rw [if_neg (by omega), if_neg (by omega), up_e]
  refine sf_owed (s := s) (d := 1) hs hS (by rw [an2 _ hs]; omega) (fun k hk j => ?_) (fun u hu hn k hk => ?_) (fun k hk => ?_) (fun u hu => ?_) (fun u hu => ?_) ?_ (fun u hu hn => ?_)
  · by_cases z : k < 10
    · exact al_lo (fun i hi => fo i (by omega) (by omega) (by omega)) k z j
    · by_cases z2 : k < 16
      · have e : k = 10 + (k - 10) := by omega
        rw [e]
        exact alE (by omega) (fun hj => fo _ (by omega) (by omega) (by omega))
      · unfold al
        rw [if_neg z, if_neg z2, if_neg (by omega), if_neg (by omega), if_neg z, if_neg z2, if_neg (by omega), if_neg (by omega)]
  · have du := (Vn_due hV hu).2
    rw [an2 _ hu] at hk
    rw [alI _ hu (by omega), alI _ hu (by omega), alJ _ hu (by omega), alJ _ hu (by omega), fo _ (by omega) (by omega) (by omega), fo _ (by omega) (by omega) (by omega)]
    exact ⟨rfl, rfl⟩
  · rw [an2 _ hs] at hk
    rw [alI _ hs (by omega), alI _ hs (by omega), alJ _ hs (by omega), alJ _ hs (by omega)]
    unfold shf
    rw [if_neg (by omega), if_pos (by omega), if_pos (by omega)]
    exact ⟨congrArg (fun i => (f i).toInt) (by omega), congrArg (fun i => (f i).toInt) (by omega)⟩
  · by_cases z : u = 5
    · subst z; rw [an5, an5]; exact fl_c (fo _ (by omega) (by omega) (by omega))
    · rw [an0 _ (by omega), an0 _ (by omega)]; exact fl_c (fo _ (by omega) (by omega) (by omega))
  · rw [an1 _ hu, an1 _ hu]; exact fl_c (fo _ (by omega) (by omega) (by omega))
  · rw [an2 _ hs, an2 _ hs, hD]; exact fl_n p0 (by omega)
  · rw [an2 _ hu, an2 _ hu]; exact fl_c (fo _ (by omega) (by omega) (by omega))
theorem gv_eq (hV : Vn d n (Mm.1 (20, 0, 0))) (hS : Sf (al (Mm.1 (20, 0, 0))) (an (Mm.1 (20, 0, 0)))) (hs : s < 5) : ∀ k, k ≤ fl (Mm.1 (20, 0, 0)) (71 + s) → m_gv Mm s k = if 0 < k ∧ q Mm (276 + 40 * s) < m_ea Mm s then 0 else -1000
  | 0, _ => by rw [if_neg (by omega)]; rfl
  | k + 1, hk => by
    have hD2 := (Vn_due hV hs).2
    have ih := gv_eq hV hS hs k (by omega)
    by_cases z : k = 0
    · subst z
      rw [m_gv]
      by_cases c : q Mm (276 + 40 * s) < m_ea Mm s
      · rw [if_pos ⟨c, Or.inl rfl⟩, if_pos ⟨by omega, c⟩]; rfl
      · rw [if_neg (fun w => c w.1), if_neg (fun w => c w.2)]; rfl
    · have as := sf_ows hs hS (i := 0) (k := k) (by omega) (by rw [an2 _ hs]; omega)
      rw [alJ _ hs (by omega), alJ _ hs (by omega)] at as
      have as' : (Mm.1 (20, 0, 0) (276 + 40 * s)).toInt < (Mm.1 (20, 0, 0) (276 + 40 * s + k)).toInt := as
      by_cases c : q Mm (276 + 40 * s) < m_ea Mm s
      · rw [if_pos ⟨by omega, c⟩] at ih
        have hneg : ¬ (q Mm (276 + 40 * s + k) < m_ea Mm s ∧ ((0 : Int32) = -1000 ∨ q Mm (276 + 40 * s + k) < q Mm (276 + 40 * s + zz_ix 0))) := by
          rintro ⟨_, w | w⟩
          · exact absurd w (by decide)
          · rw [show zz_ix 0 = 0 from rfl, ni_lt] at w
            have w' : (Mm.1 (20, 0, 0) (276 + 40 * s + k)).toInt < (Mm.1 (20, 0, 0) (276 + 40 * s)).toInt := w
            omega
        rw [m_gv, ih, if_neg hneg, if_pos ⟨by omega, c⟩]
      · rw [if_neg (fun w => c w.2)] at ih
        have hneg : ¬ (q Mm (276 + 40 * s + k) < m_ea Mm s ∧ ((-1000 : Int32) = -1000 ∨ q Mm (276 + 40 * s + k) < q Mm (276 + 40 * s + zz_ix (-1000)))) := by
          rintro ⟨w, _⟩
          apply c
          rw [ni_lt] at w ⊢
          have w' : (Mm.1 (20, 0, 0) (276 + 40 * s + k)).toInt < (m_ea Mm s).toInt := w
          show (Mm.1 (20, 0, 0) (276 + 40 * s)).toInt < _
          omega
        rw [m_gv, ih, if_neg hneg, if_neg (fun w => c w.2)]
theorem gd_loop (hs : s < 5) {N : Nat} (hN : N ≤ 40) : ∀ (F e : Nat) (Mc Mm : zM), e + F = N → RV d n (vs Mc s e N) (Mm.1 (20, 0, 0)) → yR 0 Mc (Mm.1 (20, 0, 0)) → Sf (al (Mm.1 (20, 0, 0))) (an (Mm.1 (20, 0, 0))) → yD d Mc Mm →
    (c_gl s F e Mc).2 ≤ N ∧ RV d n (vs (c_gl s F e Mc).1 s (c_gl s F e Mc).2 N) ((m_gs s F Mm).1 (20, 0, 0)) ∧ yR 0 (c_gl s F e Mc).1 ((m_gs s F Mm).1 (20, 0, 0)) ∧ Sf (al ((m_gs s F Mm).1 (20, 0, 0))) (an ((m_gs s F Mm).1 (20, 0, 0)))
  | 0, e, Mc, Mm, hF, h, hr, hS, hD => ⟨by show e ≤ N; omega, h, hr, hS⟩
  | F + 1, e, Mc, Mm, hF, h, hr, hS, hD => by
    have ed : fl (Mm.1 (20, 0, 0)) (71 + s) = N - e := by
      have := (h.1.2.2.2.2.2.1 s hs).1
      rw [vs_1] at this
      exact fl_n this.symm (by omega)
    have b := (h.1.2.2.2.2.2.1 s hs).2 0 (by omega)
    rw [vs_7, vs_7] at b
    have b1 : Mc.1 (7, 0, 6 + s) (4 * e + 1) = Mm.1 (20, 0, 0) (76 + 40 * s) := by
      rw [show 4 * e + 1 = 4 * 0 + 1 + 4 * e by omega]; exact b.1
    have b2 : Mc.1 (7, 0, 6 + s) (4 * e + 2) = Mm.1 (20, 0, 0) (276 + 40 * s) := by
      rw [show 4 * e + 2 = 4 * 0 + 2 + 4 * e by omega]; exact b.2
    have hDv : yD d (vs Mc s e N) Mm := yD_c hD (vs_o (by simp) (by simp)) rfl
    have ea : c_ea Mc s = m_ea Mm s := by
      rw [← b_ea h.1 hDv hs]
      unfold c_ea
      rw [vs_o (by simp) (by simp), vs_o (by simp) (by simp), vs_o (by simp) (by simp)]
    have gv := gv_eq h.2 hS hs (N - e) (by omega)
    rw [c_gl, m_gs, b1, b2, ea, show mn Mm (71 + s) = N - e from ed]
    by_cases c : Mm.1 (20, 0, 0) (276 + 40 * s) < m_ea Mm s
    · rw [if_pos ⟨by omega, c⟩] at gv
      rw [gv, if_pos c, if_neg (show ¬ (0 : Int32) = -1000 by decide), show zz_ix 0 = 0 from rfl]
      have hk := rv_kg (s := s) (x := Mm.1 (20, 0, 0) (76 + 40 * s)) (y := Mm.1 (20, 0, 0) (276 + 40 * s)) h
      have k49 : fl (g0f (Mm.1 (20, 0, 0))) 1437 ≤ 49 := (rv_g0 h).2
      have emn : mn (m_g0 Mm) 1437 = fl (g0f (Mm.1 (20, 0, 0))) 1437 := by
        show zz_ix ((m_g0 Mm).1 (20, 0, 0) 1437) = _
        rw [g0_f]; rfl
      have gf := gi_f (M := Mm) (D := N - e) hs ed (by omega) (by omega)
      rw [emn, g0f_o (j := 76 + 40 * s) (by omega) (by omega), g0f_o (j := 276 + 40 * s) (by omega) (by omega)] at gf
      rw [← vs_kg hs] at hk
      have lo : ∀ j, j < 1437 → kgf (g0f (Mm.1 (20, 0, 0))) s (fl (g0f (Mm.1 (20, 0, 0))) 1437) (Mm.1 (20, 0, 0) (76 + 40 * s)) (Mm.1 (20, 0, 0) (276 + 40 * s)) j = Mm.1 (20, 0, 0) j := fun j hj => by
        rw [kgf_o (by omega) (by omega) (by omega), g0f_o (by omega) (by omega)]
      have hi : ∀ j, 1639 ≤ j → kgf (g0f (Mm.1 (20, 0, 0))) s (fl (g0f (Mm.1 (20, 0, 0))) 1437) (Mm.1 (20, 0, 0) (76 + 40 * s)) (Mm.1 (20, 0, 0) (276 + 40 * s)) j = Mm.1 (20, 0, 0) j := fun j hj => by
        rw [kgf_o (by omega) (by omega) (by omega), g0f_o (by omega) (by omega)]
      have k1 := Sf_c (f' := kgf (g0f (Mm.1 (20, 0, 0))) s (fl (g0f (Mm.1 (20, 0, 0))) 1437) (Mm.1 (20, 0, 0) (76 + 40 * s)) (Mm.1 (20, 0, 0) (276 + 40 * s))) hS (fun i hi => lo i (by omega))
      have k2 := sf_sh (D := N - e) hk.2 k1 hs (by rw [fl_c (lo _ (by omega))]; exact ed) (by omega)
      have k3 := rv_sh hk hs (by omega) hN
      rw [← gf] at k2 k3
      refine gd_loop hs hN F (e + 1) _ (m_gi Mm s 0) (by omega) k3 (yR_o hr (fun u => ?_) (fun i _ _ => ?_)) k2 (yD_c hD ?_ ?_)
      · unfold c_kg
        rw [zo (by simp)]
        unfold ro_add
        split
        · unfold c_kg0
          split
          · unfold ro_drop
            split
            · rfl
            · rw [zo (by simp), zz_gc, if_neg (by simp)]
          · rfl
        · rw [zo (by simp), zo (by simp), zo (by simp), zo (by simp), zo (by simp)]
          unfold c_kg0
          split
          · unfold ro_drop
            split
            · rfl
            · rw [zo (by simp), zz_gc, if_neg (by simp)]
          · rfl
      · rw [gf]
        unfold shf
        rw [if_neg (by omega), if_neg (by omega), up_n (by omega)]
        exact hi i (by omega)
      · exact (fr_kg (M := Mc) fr_rfl).2 (4, 0, 0) 0 rfl
      · exact (mfr_gi (M := Mm) mfr_rfl).2 (6, 0, 0) 3 (by decide)
    · rw [if_neg (fun w => c w.2)] at gv
      rw [gv, if_neg c, if_pos rfl]
      exact ⟨by show e ≤ N; omega, h, hr, hS⟩
theorem gd_main (h : Ok d n Mc (Mm.1 (20, 0, 0))) (hD : yD d Mc Mm) (hs : s < 5) : Ok d n (c_gd Mc s) ((m_gs s (mn Mm (71 + s)) Mm).1 (20, 0, 0)) := by
  obtain ⟨h, hr, hS⟩ := h
  have du := (Vn_due h.2 hs)
  obtain ⟨N, hN⟩ : ∃ N, mn Mm (71 + s) = N := ⟨_, rfl⟩
  have hN' : fl (Mm.1 (20, 0, 0)) (71 + s) = N := hN
  have er : rn Mc 0 (6 + s) = N := by unfold rn; rw [(h.1.2.2.2.2.2.1 s hs).1]; exact hN
  have sz : Mc.1 (1, 0, 6 + s) 1 = nI N := by rw [(h.1.2.2.2.2.2.1 s hs).1, du.1, hN']
  have e0 : vs Mc s 0 N = Mc := by
    refine Prod.ext ?_ rfl
    funext r i
    by_cases z7 : r = (7, 0, 6 + s)
    · subst z7; rw [vs_7]; exact congrArg _ (by omega)
    · by_cases z1 : r = (1, 0, 6 + s)
      · subst z1
        by_cases zi : i = 1
        · subst zi; rw [vs_1, sz]; rfl
        · rw [vs_g, if_neg (by simp), if_neg (fun w => zi w.2)]
      · exact vs_o z7 z1
  rw [hN]
  obtain ⟨g1, g2, g3, g4⟩ := gd_loop (d := d) (n := n) hs (show N ≤ 40 by omega) N 0 Mc Mm (by omega) (by rw [e0]; exact h) hr hS hD
  have szl : (c_gl s N 0 Mc).1.1 (1, 0, 6 + s) 1 = nI N := by rw [c_gl_sz s hs _ _ _ _ (by omega)]; exact sz
  unfold c_gd
  rw [er]
  generalize c_gl s N 0 Mc = X at *
  generalize (m_gs s N Mm).1 (20, 0, 0) = F at *
  have N40 : N ≤ 40 := by omega
  have edF : fl F (71 + s) = N - X.2 := by
    have := (g2.1.2.2.2.2.2.1 s hs).1
    rw [vs_1] at this
    exact fl_n this.symm (by omega)
  have co : ∀ (r : zR) (k : Nat), ¬ r = (7, 0, 6 + s) → ¬ r = (1, 0, 6 + s) → (ro_drop X.1 0 (6 + s) N X.2).1 r k = X.1.1 r k := fun r k b1 b2 => by
    unfold ro_drop
    split
    · rfl
    · rw [zo b2, zz_gc, if_neg b1]
  have c1 : (ro_drop X.1 0 (6 + s) N X.2).1 (1, 0, 6 + s) 1 = nI (N - X.2) := by
    unfold ro_drop
    by_cases z : X.2 = 0
    · rw [if_pos (Or.inl z), szl, z]; rfl
    · rw [if_neg (by omega), zz_gs, if_pos ⟨rfl, rfl⟩]
  have c7 : ∀ k, k < 4 * (N - X.2) → (ro_drop X.1 0 (6 + s) N X.2).1 (7, 0, 6 + s) k = X.1.1 (7, 0, 6 + s) (k + 4 * X.2) := fun k hk => by
    unfold ro_drop
    by_cases z : X.2 = 0
    · rw [if_pos (Or.inl z), z]; rfl
    · rw [if_neg (by omega), zo (by simp), zz_gc, if_pos rfl, pk_cpy_in (by omega) (by omega)]
      exact congrArg _ (by omega)
  obtain ⟨⟨a1, a2, a3, a4, a5, a6, a7, a8, a9⟩, hV⟩ := g2
  have cv : ∀ (r : zR) (k : Nat), ¬ r = (7, 0, 6 + s) → ¬ r = (1, 0, 6 + s) → (ro_drop X.1 0 (6 + s) N X.2).1 r k = (vs X.1 s X.2 N).1 r k := fun r k b1 b2 => by rw [co r k b1 b2, vs_o b1 b2]
  have co := cv
  have fo : ∀ j, F j = F j := fun j => rfl
  refine ⟨⟨⟨?_, ?_, ?_, ?_, ?_, ?_, ?_, ?_, ?_⟩, hV⟩, yR_o g3 (fun u => by rw [co _ _ (by simp) (by simp), vs_o (by simp) (by simp)]) (fun i _ _ => rfl), g4⟩
  · exact yT_c a1 (fun i => co _ _ (by first | (simp; done) | (simp; omega)) (by first | (simp; done) | (simp; omega))) (fo _ ) (fo _ ) (fo _ )
  · exact yS_c a2 (fun u hu i => co _ _ (by first | (simp; done) | (simp; omega)) (by first | (simp; done) | (simp; omega))) (fun i hi => fo _ )
  · exact yK_c a3 (fun i => co _ _ (by first | (simp; done) | (simp; omega)) (by first | (simp; done) | (simp; omega))) (fun i _ _ => fo _ )
  · exact yL_c a4 (fun u hu => (Vn_len hV hu).2) (fun u hu => co _ _ (by first | (simp; done) | (simp; omega)) (by first | (simp; done) | (simp; omega))) (fun u hu => co _ _ (by first | (simp; done) | (simp; omega)) (by first | (simp; done) | (simp; omega))) (fun u hu i => co _ _ (by first | (simp; done) | (simp; omega)) (by first | (simp; done) | (simp; omega))) (fun i hi => fo _ )
  · exact yH_c a5 (Vn_hist hV).2 (co _ _ (by first | (simp; done) | (simp; omega)) (by first | (simp; done) | (simp; omega))) (co _ _ (by first | (simp; done) | (simp; omega)) (by first | (simp; done) | (simp; omega))) (fun i => co _ _ (by first | (simp; done) | (simp; omega)) (by first | (simp; done) | (simp; omega))) (fun i _ _ => fo _ )
  · intro u hu
    by_cases z : u = s
    · subst z
      rw [c1]
      refine ⟨by rw [← (a6 u hu).1, vs_1], fun k hk => ?_⟩
      have b := (a6 u hu).2 k hk
      rw [vs_7, vs_7] at b
      rw [c7 _ (by omega), c7 _ (by omega)]
      exact b
    · obtain ⟨b1, b2⟩ := a6 u hu
      rw [co _ _ (by simp) (by simp; omega)]
      refine ⟨b1, fun k hk => ?_⟩
      rw [co _ _ (by simp; omega) (by simp), co _ _ (by simp; omega) (by simp)]
      exact b2 k hk
  · exact yG_c a7 (Vn_kept hV).2 (co _ _ (by first | (simp; done) | (simp; omega)) (by first | (simp; done) | (simp; omega))) (fun i => co _ _ (by first | (simp; done) | (simp; omega)) (by first | (simp; done) | (simp; omega))) (fun i _ _ _ => fo _ )
  · exact yC_c a8 (fun i => co _ _ (by first | (simp; done) | (simp; omega)) (by first | (simp; done) | (simp; omega))) (fun i => co _ _ (by first | (simp; done) | (simp; omega)) (by first | (simp; done) | (simp; omega))) (fun i _ _ => fo _ )
  · exact yM_c a9 (Vn_sent hV).2 (co _ _ (by first | (simp; done) | (simp; omega)) (by first | (simp; done) | (simp; omega))) (fun i => co _ _ (by first | (simp; done) | (simp; omega)) (by first | (simp; done) | (simp; omega))) (fun i _ _ => fo _ )
theorem tk_loop (h : Ok d n Mc (Mm.1 (20, 0, 0))) (hD : yD d Mc Mm) : ∀ k, k ≤ 5 → Ok d n (zz_it c_tk1 k Mc) ((zz_it m_tk1 k Mm).1 (20, 0, 0)) ∧ yD d (zz_it c_tk1 k Mc) (zz_it m_tk1 k Mm)
  | 0, _ => ⟨h, hD⟩
  | k + 1, hk => by
    obtain ⟨a1, a2⟩ := tk_loop h hD k (by omega)
    rw [zz_it, zz_it]
    generalize zz_it c_tk1 k Mc = Xc at *
    generalize zz_it m_tk1 k Mm = Xm at *
    have e3 := (a1.1.1.2.1 k (by omega)).2.1
    refine ⟨?_, yD_c a2 ((fr_tk1 (M := Xc) fr_rfl).2 (4, 0, 0) 0 rfl) ((mfr_tk1 (M := Xm) mfr_rfl).2 (6, 0, 0) 3 (by decide))⟩
    unfold c_tk1 m_tk1 m_ru
    rw [e3]
    by_cases z : Xm.1 (20, 0, 0) (6 + k) = 0
    · rw [if_pos z, if_pos (by simpa using z)]
      exact gd_main a1 a2 (by omega)
    · rw [if_neg z, if_neg (by simpa using z)]
      exact a1
theorem tk_main (h : Ok d n Mc (Mm.1 (20, 0, 0))) (hD : yD d Mc Mm) (ht : (Mm.1 (20, 0, 0) 0).toInt < 100000) : Ok d n (c_tk Mc) ((m_tk Mm).1 (20, 0, 0)) ∧ yD d (c_tk Mc) (m_tk Mm) := by
  have h0 := h.1.2.2.1
  have e1 : (Mm.1 (20, 0, 0) 0 + 1).toInt = (Mm.1 (20, 0, 0) 0).toInt + 1 := ni_add (by rw [n_1]; omega) (by rw [n_1]; omega)
  have k1 : Ok d n (zz_set Mc (4, 0, 0) 9 (Mc.1 (4, 0, 0) 9 + 1)) ((qs Mm 0 (q Mm 0 + 1)).1 (20, 0, 0)) := by
    rw [qs_f, h.1.1.1.1]
    have fo : ∀ i, ¬ i = 0 → up (Mm.1 (20, 0, 0)) 0 (Mm.1 (20, 0, 0) 0 + 1) i = Mm.1 (20, 0, 0) i := fun i hi => up_n hi
    refine ⟨rv_now h.1 (by omega), yR_o h.2.1 (fun u => by simp [zz_gs]) (fun i _ _ => up_n (by omega)), ?_⟩
    obtain ⟨c0, c1, c2⟩ := an_c (f := Mm.1 (20, 0, 0)) (f' := up (Mm.1 (20, 0, 0)) 0 (Mm.1 (20, 0, 0) 0 + 1)) (fun i hi => fo i (by omega))
    refine sf_less 0 (al_hi (fun i a b => fo i (by omega))) c0 c1 c2 h.2.2 ?_ (fun u hu => Or.inr ?_) (fun u hu => Or.inl ?_) (fun u hu => ?_)
    · rw [al0, al0, up_e]
      show _ ≤ (Mm.1 (20, 0, 0) 0 + 1).toInt
      omega
    · rw [al4 _ hu, al4 _ hu, al5 _ hu, al5 _ hu, fo _ (by omega), fo _ (by omega)]; exact ⟨rfl, rfl⟩
    · rw [al2 _ hu, al2 _ hu, al3 _ hu, al3 _ hu, fo _ (by omega), fo _ (by omega)]; exact ⟨rfl, rfl⟩
    · rw [al1 _ hu, al1 _ hu, fo _ (by omega)]; exact Int.le_refl _
  unfold c_tk m_tk
  refine tk_loop k1 (yD_c hD ?_ ?_) 5 (Nat.le_refl _)
  · rw [zz_gs, if_neg (by simp)]
  · rw [zz_gs, if_neg (by simp)]
theorem gi_now {M : zM} {s k : Nat} (hs : s < 5) : (m_gi M s k).1 (20, 0, 0) 0 = M.1 (20, 0, 0) 0 := by
  unfold m_gi m_g2 m_g1
  rw [qgc, if_neg (by omega), qgc, if_neg (by omega)]
  simp only [qs_f]
  rw [up_n (by omega), up_n (by omega), up_n (by omega), up_n (by omega), up_n (by omega), up_n (by omega), up_n (by omega), g0_f, g0f_o (by omega) (by omega)]
theorem gs_now {s : Nat} (hs : s < 5) : ∀ (F : Nat) (M : zM), (m_gs s F M).1 (20, 0, 0) 0 = M.1 (20, 0, 0) 0
  | 0, _ => rfl
  | F + 1, M => by
    rw [m_gs]
    split
    · rfl
    · rw [gs_now hs F, gi_now hs]
theorem tk1_n0 {M : zM} : ∀ k, k ≤ 5 → (zz_it m_tk1 k M).1 (20, 0, 0) 0 = M.1 (20, 0, 0) 0
  | 0, _ => rfl
  | k + 1, hk => by
    rw [zz_it, m_tk1]
    split
    · rw [gs_now (by omega), tk1_n0 k (by omega)]
    · exact tk1_n0 k (by omega)
theorem tk1_now (M : zM) : (m_tk M).1 (20, 0, 0) 0 = M.1 (20, 0, 0) 0 + 1 := by
  unfold m_tk
  rw [tk1_n0 5 (Nat.le_refl _), qs_f, up_e]
theorem tks_main (h : Ok d n Mc (Mm.1 (20, 0, 0))) (hD : yD d Mc Mm) : ∀ k : Nat, (Mm.1 (20, 0, 0) 0).toInt + k ≤ 100000 → Ok d n (c_tks Mc k) ((m_tks Mm k).1 (20, 0, 0)) ∧ yD d (c_tks Mc k) (m_tks Mm k) ∧ ((m_tks Mm k).1 (20, 0, 0) 0).toInt = (Mm.1 (20, 0, 0) 0).toInt + k
  | 0, _ => ⟨h, hD, by show (Mm.1 (20, 0, 0) 0).toInt = (Mm.1 (20, 0, 0) 0).toInt + ((0 : Nat) : Int); omega⟩
  | k + 1, hk => by
    obtain ⟨a1, a2, a3⟩ := tks_main h hD k (by omega)
    rw [c_tks, m_tks]
    obtain ⟨b1, b2⟩ := tk_main a1 a2 (by omega)
    have h0 := h.1.2.2.1
    refine ⟨b1, b2, ?_⟩
    rw [tk1_now, ni_add (by rw [n_1]; omega) (by rw [n_1]; omega), a3, n_1]
    omega
theorem x_pass {t : Int32} (h : Ok d n Mc (Mm.1 (20, 0, 0))) (hD : yD d Mc Mm) : (L_pass Mc t).1 = (m_pass Mm t).1 ∧ Ok d n (L_pass Mc t).2 ((m_pass Mm t).2.1 (20, 0, 0)) := by
  have h0 := h.1.2.2.1
  unfold L_pass m_pass
  by_cases h1 : t < 1 ∨ 200 < t
  · rw [if_pos h1, if_pos h1]; exact ⟨rfl, h⟩
  · have e2 : (200 : Int32).toInt = 200 := by decide
    have e3 : (100000 : Int32).toInt = 100000 := by decide
    have t1 : ¬ t < 1 := fun z => h1 (Or.inl z)
    have t2 : ¬ 200 < t := fun z => h1 (Or.inr z)
    rw [ni_lt, n_1] at t1
    rw [ni_lt, e2] at t2
    obtain ⟨m, hm, em⟩ := ni_of (x := t) (N := 201) (by omega) (by omega)
    have ei : zz_ix t = m := ni_ix em (by omega)
    have eti : t.toInt = m := by rw [em]; exact ni_n (by omega)
    rw [if_neg h1, if_neg h1, h.1.1.1.1]
    by_cases h2 : 100000 < Mm.1 (20, 0, 0) 0 + t
    · rw [if_pos h2, if_pos h2]; exact ⟨rfl, h⟩
    · have h3 := h2
      rw [ni_lt, e3, ni_add (by omega) (by omega)] at h3
      rw [if_neg h2, if_neg h2, ei]
      dsimp only
      obtain ⟨b1, _, _⟩ := tks_main h hD m (by omega)
      exact ⟨b1.1.1.1.1, b1⟩
end PA
