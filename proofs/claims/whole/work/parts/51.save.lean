section SV
variable {d : Int} {n : Nat} {M : zM} {a : Int32}
theorem k2_in (h : ¬ (a < 0 ∨ 1 < a)) : ∃ k, k < 2 ∧ a = nI k := by
  obtain ⟨k, hk, e⟩ := ni_w (N := 1) (by decide) (fun z => h (Or.inl z)) (fun z => h (Or.inr z))
  exact ⟨k, by omega, e⟩
theorem t_save (I : INV d n M) : (L_save M a).1 = (m_save (L_save M a).2 a).1 ∧ INV d (n + 34) (m_save (L_save M a).2 a).2 := by
  unfold L_save m_save
  by_cases h1 : a < 0 ∨ 1 < a
  · rw [if_pos h1]
    dsimp only
    rw [if_pos h1]
    exact ⟨rfl, INV_up I (by omega)⟩
  · rw [if_neg h1]
    dsimp only
    rw [if_neg h1]
    dsimp only
    obtain ⟨k, hk, ek⟩ := k2_in h1
    have ei : zz_ix a = k := ni_ix ek (by omega)
    rw [ei]
    have hw : ¬ 0 = k + 1 := by omega
    obtain ⟨w1, w2⟩ := cw_rel (w := k + 1) (w2 := 0) (M := M) hw I.1.1.1 I.1.2.1 I.1.1.2
    have cf : ∀ (r : zR) (i : Nat), ¬ r.2.1 = k + 1 ∨ r.1 = 2 ∨ r.1 = 5 ∨ r.1 = 6 ∨ 14 ≤ r.1 ∨ (r.1 = 4 ∧ i = 0) → (c_cw M (k + 1) 0).1 r i = M.1 r i := fun r i h => cw_fr hw h
    generalize c_cw M (k + 1) 0 = C at *
    have so : ∀ (r : zR) (i : Nat), ¬ r = (21, 0, 0) → ¬ r = (22, 0, 0) → ¬ r = (15, 0, 0) → (zz_set (zz_cpy (zz_set C (15, 0, 0) k 1) (20, 0, 0) (21, 0, 0) 0 (1735 * k) 1735) (22, 0, 0) k 1).1 r i = C.1 r i := fun r i b1 b2 b3 => by
      rw [zo b2, zz_gc, if_neg b1, zo b3]
    have c20 : ∀ i, C.1 (20, 0, 0) i = M.1 (20, 0, 0) i := fun i => cf _ _ (by simp)
    have s21 : ∀ i, i < 1735 → (zz_set (zz_cpy (zz_set C (15, 0, 0) k 1) (20, 0, 0) (21, 0, 0) 0 (1735 * k) 1735) (22, 0, 0) k 1).1 (21, 0, 0) (1735 * k + i) = M.1 (20, 0, 0) i := fun i hi => by
      rw [zo (by simp), zz_gc, if_pos rfl, pk_cpy_in (by omega) (by omega), zo (by simp), ← c20]
      exact congrArg _ (by omega)
    have s21o : ∀ i, ¬ (1735 * k ≤ i ∧ i < 1735 * k + 1735) → (zz_set (zz_cpy (zz_set C (15, 0, 0) k 1) (20, 0, 0) (21, 0, 0) 0 (1735 * k) 1735) (22, 0, 0) k 1).1 (21, 0, 0) i = M.1 (21, 0, 0) i := fun i hi => by
      rw [zo (by simp), zz_gc, if_pos rfl, pk_cpy_out (by omega), zo (by simp)]
      exact cf _ _ (by simp)
    have s22 : ∀ i, (zz_set (zz_cpy (zz_set C (15, 0, 0) k 1) (20, 0, 0) (21, 0, 0) 0 (1735 * k) 1735) (22, 0, 0) k 1).1 (22, 0, 0) i = if i = k then 1 else M.1 (22, 0, 0) i := fun i => by
      rw [zz_gs]
      by_cases z : i = k
      · rw [if_pos ⟨rfl, z⟩, if_pos z]
      · rw [if_neg (fun y => z y.2), if_neg z, zz_gc, if_neg (by simp), zo (by simp)]
        exact cf _ _ (by simp)
    have s15 : ∀ i, (zz_set (zz_cpy (zz_set C (15, 0, 0) k 1) (20, 0, 0) (21, 0, 0) 0 (1735 * k) 1735) (22, 0, 0) k 1).1 (15, 0, 0) i = if i = k then 1 else M.1 (15, 0, 0) i := fun i => by
      rw [zo (by simp), zz_gc, if_neg (by simp), zz_gs]
      by_cases z : i = k
      · rw [if_pos ⟨rfl, z⟩, if_pos z]
      · rw [if_neg (fun y => z y.2), if_neg z]
        exact cf _ _ (by simp)
    refine ⟨?_, INV_up ?_ (Nat.le_add_right n 34)⟩
    · rw [zo (by simp), cf _ _ (Or.inl hw), I.1.1.1.1.1]
      show _ = (zz_set C (15, 0, 0) k 1).1 (20, 0, 0) 0
      rw [zo (by simp), c20]
    · generalize zz_set (zz_cpy (zz_set C (15, 0, 0) k 1) (20, 0, 0) (21, 0, 0) 0 (1735 * k) 1735) (22, 0, 0) k 1 = S at *
      have T : ∀ {r : zR} {t : Nat}, r.1 ≤ 13 → 14 ≤ t → ¬ r = (t, 0, 0) := fun h1 h2 z => by
        rw [z] at h1; exact absurd (Nat.le_trans h2 h1) (by decide)
      have mo : ∀ (r : zR) (i : Nat), ¬ r = (21, 0, 0) → ¬ r = (22, 0, 0) → ¬ r = (15, 0, 0) → (¬ r.2.1 = k + 1 ∨ r.1 = 2 ∨ r.1 = 5 ∨ r.1 = 6 ∨ 14 ≤ r.1 ∨ (r.1 = 4 ∧ i = 0)) → S.1 r i = M.1 r i := fun r i b1 b2 b3 b4 => (so r i b1 b2 b3).trans (cf r i b4)
      obtain ⟨b1, b2, b3, ⟨l, t1, t2, t3, t4⟩, ⟨r, r1, r2, r3, r4⟩⟩ := I
      refine ⟨?_, yD_c b2 (mo _ _ (by simp) (by simp) (by simp) (by simp)) (mo _ _ (by simp) (by simp) (by simp) (by simp)), fun j hj => ?_, ⟨l, t1, ?_, ?_, fun i hi => ?_⟩, ⟨r, r1, ?_, ?_, fun i hi => ?_⟩⟩
      · refine Ok_cc b1 (Nat.le_refl _) (fun r i h0 h1 _ _ => mo r i (T h1 (by omega)) (T h1 (by omega)) (T h1 (by omega)) (Or.inl (by omega))) (fun i _ => mo _ _ (by simp) (by simp) (by simp) (by simp))
      · rw [s15, s22]
        by_cases z : j = k
        · subst z
          rw [if_pos rfl, if_pos rfl]
          refine ⟨rfl, fun _ => ?_⟩
          obtain ⟨x, y⟩ := yRel_cc (M' := S) (f' := fun i => S.1 (21, 0, 0) (1735 * j + i)) w1 w2 b1.1.2 (fun r i h0 h1 _ _ => so r i (T h1 (by omega)) (T h1 (by omega)) (T h1 (by omega))) (fun i hi => s21 i hi)
          exact ⟨x, y, Vn_cc b1.1.2 (Nat.le_refl _) (fun i hi => s21 i hi), Sf_c b1.2.2 (fun i hi => s21 i (by omega))⟩
        · rw [if_neg z, if_neg z]
          obtain ⟨x, y⟩ := b3 j hj
          refine ⟨x, fun u => snp_c (Nat.le_refl _) hj (y u) (fun r i h0 h1 _ _ => mo r i (T h1 (by omega)) (T h1 (by omega)) (T h1 (by omega)) (Or.inl (by omega))) (fun i h2 h3 => s21o i (by omega))⟩
      · rw [mo _ _ (by simp) (by simp) (by simp) (by simp)]; exact t2
      · rw [mo _ _ (by simp) (by simp) (by simp) (by simp)]; exact t3
      · rw [mo _ _ (by simp) (by simp) (by simp) (by simp), mo _ _ (by simp) (by simp) (by simp) (by simp)]; exact t4 i hi
      · rw [mo _ _ (by simp) (by simp) (by simp) (by simp)]; exact r2
      · rw [mo _ _ (by simp) (by simp) (by simp) (by simp)]; exact r3
      · rw [mo _ _ (by simp) (by simp) (by simp) (by simp), mo _ _ (by simp) (by simp) (by simp) (by simp)]; exact r4 i hi
theorem t_restore (I : INV d n M) : (L_restore M a).1 = (m_restore (L_restore M a).2 a).1 ∧ INV d (n + 34) (m_restore (L_restore M a).2 a).2 := by
  unfold L_restore m_restore
  by_cases h1 : a < 0 ∨ 1 < a
  · rw [if_pos h1]
    dsimp only
    rw [if_pos h1]
    exact ⟨rfl, INV_up I (by omega)⟩
  · rw [if_neg h1]
    obtain ⟨k, hk, ek⟩ := k2_in h1
    have ei : zz_ix a = k := ni_ix ek (by omega)
    rw [ei]
    obtain ⟨n1, n2⟩ := I.2.2.1 k hk
    rw [n1]
    by_cases h2 : M.1 (22, 0, 0) k = 0
    · rw [if_pos h2]
      dsimp only
      rw [if_neg h1, if_pos h2]
      exact ⟨rfl, INV_up I (by omega)⟩
    · rw [if_neg h2]
      dsimp only
      rw [if_neg h1]
      obtain ⟨p1, p2, p3, p4⟩ := n2 h2
      have hw : ¬ k + 1 = 0 := by omega
      obtain ⟨w1, w2⟩ := cw_rel (w := 0) (w2 := k + 1) (M := M) hw p1 p2 p3
      have cf : ∀ (r : zR) (i : Nat), ¬ r.2.1 = 0 ∨ r.1 = 2 ∨ r.1 = 5 ∨ r.1 = 6 ∨ 14 ≤ r.1 ∨ (r.1 = 4 ∧ i = 0) → (c_cw M 0 (k + 1)).1 r i = M.1 r i := fun r i h => cw_fr hw h
      generalize c_cw M 0 (k + 1) = C at *
      rw [if_neg (by rw [cf _ _ (by simp)]; exact h2)]
      dsimp only
      have so : ∀ (r : zR) (i : Nat), ¬ r = (20, 0, 0) → (zz_cpy C (21, 0, 0) (20, 0, 0) (1735 * k) 0 1735).1 r i = C.1 r i := fun r i b1 => by
        rw [zz_gc, if_neg b1]
      have s20 : ∀ i, i < 1735 → (zz_cpy C (21, 0, 0) (20, 0, 0) (1735 * k) 0 1735).1 (20, 0, 0) i = M.1 (21, 0, 0) (1735 * k + i) := fun i hi => by
        rw [zz_gc, if_pos rfl, pk_cpy_in (by omega) (by omega), cf _ _ (by simp)]
        exact congrArg _ (by omega)
      refine ⟨?_, INV_up ?_ (Nat.le_add_right n 34)⟩
      · rw [w1.1.1, cf _ _ (by simp)]; rfl
      · generalize zz_cpy C (21, 0, 0) (20, 0, 0) (1735 * k) 0 1735 = S at *
        have T : ∀ {r : zR} {t : Nat}, r.1 ≤ 13 → 14 ≤ t → ¬ r = (t, 0, 0) := fun h1 h2 z => by
          rw [z] at h1; exact absurd (Nat.le_trans h2 h1) (by decide)
        have mo : ∀ (r : zR) (i : Nat), ¬ r = (20, 0, 0) → (¬ r.2.1 = 0 ∨ r.1 = 2 ∨ r.1 = 5 ∨ r.1 = 6 ∨ 14 ≤ r.1 ∨ (r.1 = 4 ∧ i = 0)) → S.1 r i = M.1 r i := fun r i b1 b4 => (so r i b1).trans (cf r i b4)
        obtain ⟨b1, b2, b3, ⟨l, t1, t2, t3, t4⟩, ⟨r, r1, r2, r3, r4⟩⟩ := I
        refine ⟨?_, yD_c b2 (mo _ _ (by simp) (by simp)) (mo _ _ (by simp) (by simp)), fun j hj => ?_, ⟨l, t1, ?_, ?_, fun i hi => ?_⟩, ⟨r, r1, ?_, ?_, fun i hi => ?_⟩⟩
        · obtain ⟨x, y⟩ := yRel_cc (M' := S) (f' := S.1 (20, 0, 0)) w1 w2 p3 (fun r i h0 h1 _ _ => so r i (T h1 (by omega))) (fun i hi => s20 i hi)
          exact ⟨⟨x, Vn_cc p3 (Nat.le_refl _) (fun i hi => s20 i hi)⟩, y, Sf_c p4 (fun i hi => s20 i (by omega))⟩
        · rw [mo _ _ (by simp) (by simp), mo _ _ (by simp) (by simp)]
          obtain ⟨x, y⟩ := b3 j hj
          exact ⟨x, fun u => snp_c (Nat.le_refl _) hj (y u) (fun r i h0 h1 _ _ => mo r i (T h1 (by omega)) (Or.inl (by omega))) (fun i _ _ => mo _ _ (by simp) (by simp))⟩
        · rw [mo _ _ (by simp) (by simp)]; exact t2
        · rw [mo _ _ (by simp) (by simp)]; exact t3
        · rw [mo _ _ (by simp) (by simp), mo _ _ (by simp) (by simp)]; exact t4 i hi
        · rw [mo _ _ (by simp) (by simp)]; exact r2
        · rw [mo _ _ (by simp) (by simp)]; exact r3
        · rw [mo _ _ (by simp) (by simp), mo _ _ (by simp) (by simp)]; exact r4 i hi
theorem i_wrs (I : INV d n M) : ∀ i, i < 2 → M.1 (15, 0, 0) i ≠ 0 → wr M (i + 1) := fun i hi h => by
  obtain ⟨a, b⟩ := I.2.2.1 i hi
  rw [a] at h
  obtain ⟨x, _, y, _⟩ := b h
  exact r_wr x y
theorem t_digest (I : INV d n M) : L_digest M = m_digest M ∧ INV d (n + 34) (zz_setl M (m_digest M)) := by
  obtain ⟨a, b, c, ⟨l, t1, t2, t3, t4⟩, ⟨r, r1, r2, r3, r4⟩⟩ := id I
  exact ⟨q_digest a.1.1 a.2.1 a.1.2 b a.2.2 (by rw [t2, t3]) (by rw [r2, r3]), INV_up I (by omega)⟩
end SV
