theorem ni_c4 {x : Int32} (h0 : ¬ x < 0) (h3 : ¬ 3 < x) : ∃ c : Nat, c < 4 ∧ x = nI c := by
  rw [ni_lt] at h0 h3
  have e0 : (0 : Int32).toInt = 0 := rfl
  have e3 : (3 : Int32).toInt = 3 := rfl
  exact ni_of (by omega) (by omega)
def c_cw1 (w w2 k : Nat) (M : zM) : zM := se_copy M w k w2 k (rn M w2 k) (rn M w2 (6 + k))
def c_cw (M : zM) (w w2 : Nat) : zM :=
  let A := zz_it (c_cw1 w w2) 5 M
  let B := zz_cpy (zz_cpy A (10, w2, 0) (10, w, 0) 0 0 25) (11, w2, 0) (11, w, 0) 0 0 5
  let E := ro_copy (ro_copy (lo_copy B w 5 w2 5 (rn M w2 5)) w 11 w2 11 (rn M w2 11)) w 12 w2 12 (rn M w2 12)
  let F := zz_cpy (zz_cpy E (12, w2, 0) (12, w, 0) 0 0 4) (13, w2, 0) (13, w, 0) 0 0 4
  zz_set (zz_set (zz_set F (4, w, 0) 9 (F.1 (4, w2, 0) 9)) (4, w, 0) 10 (F.1 (4, w2, 0) 10)) (4, w, 0) 11 (F.1 (4, w2, 0) 11)
theorem c_cw1_src {M : zM} {w w2 k t j i : Nat} (hne : ¬ w2 = w) : (c_cw1 w w2 k M).1 (t, w2, j) i = M.1 (t, w2, j) i := by
  simp [c_cw1, se_copy, lo_copy, ro_copy, se_pp, se_pl, zz_gs, zz_gc, hne]
theorem zz_rlo2 {k : Nat} (hk : k < 5) : zz_rl k = 160 ∧ zz_rl (6 + k) = 160 := ⟨zz_rl5 (by omega), zz_rlo hk⟩
theorem sp_Wo_bring {G : zG} {post : Option zV → zM → Prop} {M : zM} {k : Nat} {a : Int32} (hG : zz_go G) (ea : a = nI k) (hw : wr M 0) (hk : k < rn M 0 12) (h : post (some (.inl (c_br M k).1)) (c_br M k).2) : zz_T G md_Wo_bring [.inr (.inr (4, 0, 0)), .inl a] M post := by
  refine en_Wo_bring hG rfl (fun Z ok => ?_)
  subst ea
  have hn := hw 12 (by decide)
  have hr : zz_rl 12 = 80 := rfl
  have hn' : (zz_set M (7, 0, 12) (4 * k + 3) 1).1 (1, 0, 12) 1 = nI (rn M 0 12) := by
    rw [zz_gs, if_neg (by simp)]; exact hn.1
  unfold c_br at h
  refine zz_cV ok rfl trivial rfl lk_Wo_92 ca_Ro_get rfl rfl rfl rfl rfl (sp_Ro_get hG hn.1 hn.2 (c := 0) rfl (by decide) ?_)
  rw [ro_get_in hn.1 hn.2 rfl hk]
  refine zz_cV ok rfl trivial rfl lk_Wo_92 ca_Ro_get rfl rfl rfl rfl rfl (sp_Ro_get hG hn.1 hn.2 (c := 2) rfl (by decide) ?_)
  rw [ro_get_in hn.1 hn.2 rfl hk]
  refine zz_cV ok rfl trivial rfl lk_Wo_186 ca_Ro_set rfl rfl rfl rfl rfl (sp_Ro_set hG hn.1 hn.2 (k := k) rfl hk (c := 3) rfl (by decide) ?_)
  refine zz_cN ok rfl trivial rfl lk_Wo_189 ca_Le_isWithin rfl rfl rfl (sp_Le_isWithin hG ?_)
  refine zz_b ok rfl trivial rfl (fun h36 => ?_) (fun h36 => ?_)
  · skip
    rw [zz_bi0] at h36
    have h36 : M.1 (7, 0, 12) (4 * k) < 0 ∨ 3 < M.1 (7, 0, 12) (4 * k) := by
      simp only [Nat.add_zero, Bool.and_eq_false_iff, Bool.not_eq_false', decide_eq_true_eq] at h36; exact h36
    refine zz_z ok rfl trivial rfl rfl (by first | exact Or.inl rfl | exact Or.inr rfl | exact zz_bi01 _) ?_
    rw [if_pos (h36.elim Or.inl (fun q => Or.inr (Or.inl q)))] at h
    exact zz_pq h rfl (by simp [zz_gs])
  · skip
    rw [zz_bi0] at h36
    have h36 : ¬ M.1 (7, 0, 12) (4 * k) < 0 ∧ ¬ 3 < M.1 (7, 0, 12) (4 * k) := by
      simp only [Nat.add_zero, Bool.and_eq_false_iff, Bool.not_eq_false', decide_eq_true_eq, not_or] at h36; exact h36
    obtain ⟨c, hc, ec⟩ := ni_c4 h36.1 h36.2
    refine zz_b ok rfl (by and_intros <;> first | trivial | exact ni_inx ec hc (by decide)) rfl (fun h46 => ?_) (fun h46 => ?_)
    · skip
      have h46 : M.1 (7, 0, 12) (4 * k + 2) < M.1 (13, 0, 0) (zz_ix (M.1 (7, 0, 12) (4 * k))) := by simpa [zz_gs] using h46
      refine zz_z ok rfl trivial rfl rfl (by first | exact Or.inl rfl | exact Or.inr rfl | exact zz_bi01 _) ?_
      rw [if_pos (Or.inr (Or.inr h46))] at h
      exact zz_pq h rfl (by simp [zz_gs])
    · skip
      have h46 : ¬ M.1 (7, 0, 12) (4 * k + 2) < M.1 (13, 0, 0) (zz_ix (M.1 (7, 0, 12) (4 * k))) := by simpa [zz_gs] using h46
      refine zz_cV ok rfl trivial rfl lk_Wo_92 ca_Ro_get rfl rfl rfl rfl rfl (sp_Ro_get hG hn' hn.2 (c := 1) rfl (by decide) ?_)
      rw [ro_get_in hn' hn.2 rfl hk]
      refine zz_z ok rfl (by and_intros <;> first | trivial | exact ni_inx ec hc (by decide)) rfl rfl (by first | exact Or.inl rfl | exact Or.inr rfl | exact zz_bi01 _) ?_
      rw [if_neg (fun q => q.elim h36.1 (fun q => q.elim h36.2 h46))] at h
      exact zz_pq h rfl (by simp [zz_gs])
theorem sp_Wo_copyWorld {G : zG} {post : Option zV → zM → Prop} {M : zM} {w w2 : Nat} (hG : zz_go G) (hne : ¬ w2 = w) (hw : wr M w2) (h : post none (c_cw M w w2)) : zz_T G md_Wo_copyWorld [.inr (.inr (4, w, 0)), .inr (.inr (4, w2, 0))] M post := by
  refine en_Wo_copyWorld hG rfl (fun Z ok => ?_)
  have h5 := hw 5 (by decide)
  have h11 := hw 11 (by decide)
  have h12 := hw 12 (by decide)
  unfold c_cw at h
  have lp2 : ∀ (f k : Nat), 5 - k < f → k ≤ 5 → ∀ (x2 : Int32) (M' : zM), x2 = nI k → M' = zz_it (c_cw1 w w2) k M → (∀ t j i, M'.1 (t, w2, j) i = M.1 (t, w2, j) i) → zz_W G Z md_Wo_copyWorld post 2 [(2, .inl x2), (1, .inr (.inr (4, w2, 0))), (0, .inr (.inr (4, w, 0)))] [] M' := by
    intro f
    induction f with
    | zero => intro k hf; exact absurd hf (Nat.not_lt_zero _)
    | succ f ih => ?_
    intro k hf hk x2 M' e2 eM src
    subst e2
    refine zz_b ok rfl trivial rfl (fun h4 => ?_) (fun h4 => ?_)
    · skip
      rw [ni_lit, ni_ltn (by omega) (by decide)] at h4
      have hk5 : k < 5 := h4
      have ek := ni_e5 hk5
      have hr := zz_rlo2 hk5
      have hb1 : rn M' w2 k * 4 ≤ 160 := by
        have := (hw k (by omega)).2; rw [hr.1] at this; unfold rn at *; rw [src]; exact this
      have hb2 : rn M' w2 (6 + k) * 4 ≤ 160 := by
        have := (hw (6 + k) (by omega)).2; rw [hr.2] at this; unfold rn at *; rw [src]; exact this
      have hk1 : M'.1 (1, w2, k) 1 = nI (rn M' w2 k) := by
        have := (hw k (by omega)).1; unfold rn at *; rw [src]; exact this
      have hk2 : (lo_copy M' w k w2 k (rn M' w2 k)).1 (1, w2, 6 + k) 1 = nI (rn M' w2 (6 + k)) := by
        have := (hw (6 + k) (by omega)).1; unfold rn at *; simp only [lo_copy, ro_copy, zz_gs, zz_gc]; simp [hne]; rw [src]; exact this
      refine zz_cV ok rfl ⟨ni_5 hk5, ni_5 hk5, trivial⟩ rfl lk_Wo_202 ca_Se_copyServer rfl rfl rfl rfl rfl (sp_Se_copyServer (n := rn M' w2 k) (k := rn M' w2 (6 + k)) hG (by rw [ek]; exact hk1) (by rw [ek, hr.1]; exact hb1) (by rw [ek, hr.1]; exact hb1) (by rw [ek]; exact hk2) (by rw [ek, hr.2]; exact hb2) (by rw [ek, hr.2]; exact hb2) hne ?_)
      try simp only [ek]
      refine zz_g ok rfl trivial ?_
      refine zz_pm [2, 1, 0] rfl ?_
      exact ih (k + 1) (by omega) (by omega) _ _ (nI_1 k) (by rw [zz_it, ← eM]; rfl) (fun t j i => (c_cw1_src hne).trans (src t j i))
    · skip
      rw [ni_lit, ni_ltn (by omega) (by decide)] at h4
      have hk6 : k = 5 := by omega
      subst hk6
      refine zz_cV ok rfl (by decide) rfl lk_Wo_182 ca_Lo_copyLog rfl rfl rfl rfl rfl (sp_Lo_copyLog (n := rn M w2 5) hG (by simp [zz_gc, src]; exact h5.1) h5.2 h5.2 ?_)
      refine zz_cV ok rfl trivial rfl lk_Wo_178 ca_Ro_copyRows rfl rfl rfl rfl rfl (sp_Ro_copyRows (n := rn M w2 11) hG (by simp [zz_gs, zz_gc, lo_copy, ro_copy, hne, src]; exact h11.1) h11.2 h11.2 ?_)
      refine zz_cV ok rfl trivial rfl lk_Wo_178 ca_Ro_copyRows rfl rfl rfl rfl rfl (sp_Ro_copyRows (n := rn M w2 12) hG (by simp [zz_gs, zz_gc, lo_copy, ro_copy, hne, src]; exact h12.1) h12.2 h12.2 ?_)
      refine zz_v ok rfl (by decide) rfl rfl ?_
      refine zz_pq h rfl ?_
      rw [← eM]
      have e0 : zz_ix 0 = 0 := rfl
      have e4 : zz_ix 4 = 4 := rfl
      have e5 : zz_ix 5 = 5 := rfl
      have e25 : zz_ix 25 = 25 := rfl
      simp only [e0, e4, e5, e25]
      simp [zz_gs, hne]
  refine zz_g ok rfl trivial ?_
  refine zz_pm [2, 1, 0] rfl ?_
  exact lp2 6 0 (by omega) (by omega) _ _ rfl rfl (fun _ _ _ => rfl)
