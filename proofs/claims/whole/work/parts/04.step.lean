set_option maxHeartbeats 4000000 in
/-- an instruction that neither branches nor calls: the machine does what the pure one does -/
theorem zz_sd {G : zG} {Z : zC} {md : zD} {post : Option zV → zM → Prop} (ok : zz_ok G Z md) {pc op x y npc : Nat} {i : Int32} {ls ls' : zL} {st st' : List zV} {M M' : zM} {P : Option Prop}
    (he : (pc, op, i, x, y, npc) ∈ md.2.2.2.2.2.2.2) (h : zz_stp op i x y ls st M = some (P, ls', st', M')) (hp : ∀ p, P = some p → p) (k : zz_W G Z md post npc ls' st' M') : zz_W G Z md post pc ls st M := by
  obtain ⟨l, D, ad, cA, L⟩ := G
  obtain ⟨p, e, s, m, args, below, meth, c⟩ := Z
  obtain ⟨y0, b, nL, ret, own, rm, stops, code⟩ := md
  obtain ⟨hG, hx, hb, hr, hml, hown, hts, hlk, hK, hmd⟩ := ok
  have hck := hmd _ he
  dsimp only at hck hx hb hr hml hown hts hlk he
  intro hl1 hl2 H locs la hP hS hl
  have hD := zz_D hG M
  dsimp only at hl1 hl2 hP hS hl ⊢
  unfold zz_stp at h
  split at h
  · -- 0: a constant
    cases h
    have k' := k hl1 (zz_lvc trivial hl2) H locs la hP hS hl
    dsimp only [List.map_cons, zz_cv] at k'
    simp only [zz_cm, Bool.or_eq_true, Bool.and_eq_true, decide_eq_true_eq, List.any_eq_true] at hck
    rcases hck with ⟨hd, hn⟩ | ⟨hd, hn, hv⟩ | ⟨hd, hn, hv⟩ | ⟨q, hq, h1, h2, ⟨hd, hn⟩ | ⟨hd, hn⟩⟩
    · subst hn; exact lv_iconst hx hb hd (zz_ofI i) k'
    · subst hn; exact lv_bipush hx hb hd hv k'
    · subst hn; exact lv_sipush hx hb hd hv k'
    · subst hn; subst h2; exact lv_ldc hx hb hown (hts _ (h1 ▸ zz_cs_ok q hq)) hd k'
    · subst hn; subst h2; exact lv_ldcw hx hb hown (hts _ (h1 ▸ zz_cs_ok q hq)) hd k'
  · -- 1
    split at h
    · next v hv =>
      cases h
      have k' := k hl1 (zz_lvc (hl1 _ (zz_lk_mem hv)) hl2) H locs la hP hS hl
      have ha := zz_lk_at hl hv
      dsimp only [List.map_cons, zz_cv] at k' ha
      simp only [zz_cm, Bool.or_eq_true, Bool.and_eq_true, decide_eq_true_eq] at hck
      rcases hck with ⟨hd, h4, hn⟩ | ⟨hd, hn⟩
      · subst hn; exact lv_iload_n hx hb hd (zz_fin h4) ha k'
      · subst hn; exact lv_iload hx hb hd ha k'
    · cases h
  · -- 2
    split at h
    · next v st1 =>
      rw [zz_r_eq] at h
      cases h
      have k' := fun la hl => k (zz_lvf (zz_lvh hl2) hl1) (zz_lvt hl2) H locs la hP hS hl
      rw [List.map_cons, zz_filt] at k'
      simp only [zz_cm, Bool.or_eq_true, Bool.and_eq_true, decide_eq_true_eq] at hck
      rcases hck with ⟨hx4, ⟨hd, h4, hn⟩ | ⟨hd, hn⟩⟩
      · subst hn; exact lv_istore_n hx hb hd (zz_fin h4) hl hx4 rfl k'
      · subst hn; exact lv_istore hx hb hd hl hx4 rfl k'
    · cases h
  · -- 3
    split at h
    · next v hv =>
      cases h
      have k' := k hl1 (zz_lvc (hl1 _ (zz_lk_mem hv)) hl2) H locs la hP hS hl
      have ha := zz_lk_at hl hv
      dsimp only [List.map_cons, zz_cv] at k' ha
      simp only [zz_cm, Bool.or_eq_true, Bool.and_eq_true, decide_eq_true_eq] at hck
      rcases hck with ⟨hd, h4, hn⟩ | ⟨hd, hn⟩
      · subst hn; exact lv_aload_n hx hb hd (zz_fin h4) ha k'
      · subst hn; exact lv_aload hx hb hd ha k'
    · cases h
  · -- 4
    split at h
    · next v st1 =>
      rw [zz_r_eq] at h
      cases h
      have k' := fun la hl => k (zz_lvf (zz_lvh hl2) hl1) (zz_lvt hl2) H locs la hP hS hl
      rw [List.map_cons, zz_filt] at k'
      simp only [zz_cm, Bool.or_eq_true, Bool.and_eq_true, decide_eq_true_eq] at hck
      rcases hck with ⟨hx4, ⟨hd, h4, hn⟩ | ⟨hd, hn⟩⟩
      · subst hn; exact lv_astore_n hx hb hd (zz_fin h4) hl hx4 rfl k'
      · subst hn; exact lv_astore hx hb hd hl hx4 rfl k'
    · cases h
  · -- 5
    split at h
    · next v hv =>
      cases h
      have k' := k hl1 (zz_lvc (hl1 _ (zz_lk_mem hv)) hl2) H locs la hP hS hl
      have ha := zz_lk_at hl hv
      dsimp only [List.map_cons, zz_cv] at k' ha
      simp only [zz_cm, Bool.or_eq_true, Bool.and_eq_true, decide_eq_true_eq] at hck
      rcases hck with ⟨hd, h4, hn⟩ | ⟨hd, hn⟩
      · subst hn; exact lv_lload_n hx hb hd (zz_fin h4) ha k'
      · subst hn; exact lv_lload hx hb hd ha k'
    · cases h
  · -- 6
    split at h
    · next v st1 =>
      rw [zz_r_eq] at h
      cases h
      have k' := fun la hl => k (zz_lvf (zz_lvh hl2) hl1) (zz_lvt hl2) H locs la hP hS hl
      rw [List.map_cons, zz_filt2] at k'
      simp only [zz_cm, Bool.or_eq_true, Bool.and_eq_true, decide_eq_true_eq] at hck
      rcases hck with ⟨hx4, ⟨hd, h4, hn⟩ | ⟨hd, hn⟩⟩
      · subst hn; exact lv_lstore_n hx hb hd (zz_fin h4) hl hx4 rfl k'
      · subst hn; exact lv_lstore hx hb hd hl hx4 rfl k'
    · cases h
  · -- 7
    split at h
    · next v hv =>
      rw [zz_r_eq] at h
      cases h
      have k' := fun la hl => k (zz_lvf (v := .inl (v + i)) trivial hl1) hl2 H locs la hP hS hl
      have hm : (x, Value.int v) ∈ ls.map (fun q => (q.1, zz_cv ad q.2)) := List.mem_map.mpr ⟨(x, .inl v), zz_lk_mem hv, rfl⟩
      obtain ⟨kk, hkk⟩ := List.getElem?_of_mem (a := (x, Value.int v)) (l := ls.map (fun q => (q.1, zz_cv ad q.2))) hm
      rw [List.map_cons, zz_filt] at k'
      simp only [zz_cm, Bool.and_eq_true, decide_eq_true_eq] at hck
      obtain ⟨hx4, hd, hn⟩ := hck
      subst hn
      exact lv_iinc hx hb hd hl hkk (by rw [zz_ofI]) hx4 rfl k'
    · cases h
  · -- 8
    split at h
    · next b1 a1 st1 =>
      simp only [zz_cm, Bool.and_eq_true, decide_eq_true_eq] at hck
      obtain ⟨hx9, hd, hn⟩ := hck
      subst hn
      split at h <;> cases h
      · exact lv_iadd hx hb hd (k hl1 (zz_lvc trivial (zz_lvt (zz_lvt hl2))) H locs la hP hS hl)
      · exact lv_isub hx hb hd (k hl1 (zz_lvc trivial (zz_lvt (zz_lvt hl2))) H locs la hP hS hl)
      · exact lv_imul hx hb hd (k hl1 (zz_lvc trivial (zz_lvt (zz_lvt hl2))) H locs la hP hS hl)
      · exact lv_iand hx hb hd (k hl1 (zz_lvc trivial (zz_lvt (zz_lvt hl2))) H locs la hP hS hl)
      · exact lv_ior hx hb hd (k hl1 (zz_lvc trivial (zz_lvt (zz_lvt hl2))) H locs la hP hS hl)
      · exact lv_ixor hx hb hd (k hl1 (zz_lvc trivial (zz_lvt (zz_lvt hl2))) H locs la hP hS hl)
      · exact lv_ishl hx hb hd (k hl1 (zz_lvc trivial (zz_lvt (zz_lvt hl2))) H locs la hP hS hl)
      · exact lv_ishr hx hb hd (k hl1 (zz_lvc trivial (zz_lvt (zz_lvt hl2))) H locs la hP hS hl)
      · exact lv_iushr hx hb hd rfl (k hl1 (zz_lvc trivial (zz_lvt (zz_lvt hl2))) H locs la hP hS hl)
    · cases h
  · -- 9
    split at h
    · cases h
      have k' := k hl1 (zz_lvc trivial (zz_lvt hl2)) H locs la hP hS hl
      dsimp only [List.map_cons, zz_cv] at k' ⊢
      simp only [zz_cm, Bool.and_eq_true, decide_eq_true_eq] at hck
      obtain ⟨hd, hn⟩ := hck
      subst hn
      exact lv_ineg hx hb hd k'
    · cases h
  · -- 10
    split at h
    · cases h
      have k' := k hl1 (zz_lvc trivial (zz_lvt (zz_lvt hl2))) H locs la hP hS hl
      dsimp only [List.map_cons, zz_cv] at k' ⊢
      simp only [zz_cm, Bool.and_eq_true, decide_eq_true_eq] at hck
      obtain ⟨hd, hn⟩ := hck
      subst hn
      exact lv_idiv hx hb hd (hp _ rfl) k'
    · cases h
  · -- 11
    split at h
    · cases h
      have k' := k hl1 (zz_lvc trivial (zz_lvt (zz_lvt hl2))) H locs la hP hS hl
      dsimp only [List.map_cons, zz_cv] at k' ⊢
      simp only [zz_cm, Bool.and_eq_true, decide_eq_true_eq] at hck
      obtain ⟨hd, hn⟩ := hck
      subst hn
      exact lv_irem hx hb hd (hp _ rfl) k'
    · cases h
  · -- 12
    split at h
    · cases h
      have k' := k hl1 (zz_lvc trivial (zz_lvt hl2)) H locs la hP hS hl
      dsimp only [List.map_cons, zz_cv] at k' ⊢
      simp only [zz_cm, Bool.and_eq_true, decide_eq_true_eq] at hck
      obtain ⟨hd, hn⟩ := hck
      subst hn
      exact lv_i2l hx hb hd rfl k'
    · cases h
  · -- 13
    split at h
    · cases h
      have k' := k hl1 (zz_lvc trivial (zz_lvt (zz_lvt hl2))) H locs la hP hS hl
      dsimp only [List.map_cons, zz_cv] at k' ⊢
      simp only [zz_cm, Bool.and_eq_true, decide_eq_true_eq] at hck
      obtain ⟨hd, hn⟩ := hck
      subst hn
      exact lv_ladd hx hb hd k'
    · cases h
  · -- 14
    split at h
    · cases h
      have k' := k hl1 (zz_lvc trivial (zz_lvt (zz_lvt hl2))) H locs la hP hS hl
      dsimp only [List.map_cons, zz_cv] at k' ⊢
      simp only [zz_cm, Bool.and_eq_true, decide_eq_true_eq] at hck
      obtain ⟨hd, hn⟩ := hck
      subst hn
      exact lv_lmul hx hb hd k'
    · cases h
  · -- 15
    split at h
    · cases h
      have k' := k hl1 (zz_lvc trivial hl2) H locs la hP hS hl
      dsimp only [List.map_cons, zz_cv] at k' ⊢
      simp only [zz_cm, Bool.and_eq_true, decide_eq_true_eq] at hck
      obtain ⟨hd, hn⟩ := hck
      subst hn
      exact lv_dup hx hb hd rfl k'
    · cases h
      have k' := k hl1 (zz_lvc (zz_lvh hl2) hl2) H locs la hP hS hl
      dsimp only [List.map_cons, zz_cv] at k' ⊢
      simp only [zz_cm, Bool.and_eq_true, decide_eq_true_eq] at hck
      obtain ⟨hd, hn⟩ := hck
      subst hn
      exact lv_dup hx hb hd rfl k'
    · cases h
  · -- 16
    split at h
    · cases h
      have k' := k hl1 (zz_lvc trivial (zz_lvc (zz_lvh (zz_lvt hl2)) hl2)) H locs la hP hS hl
      dsimp only [List.map_cons, zz_cv] at k' ⊢
      simp only [zz_cm, Bool.and_eq_true, decide_eq_true_eq] at hck
      obtain ⟨hd, hn⟩ := hck
      subst hn
      exact lv_dup2_11 hx hb hd rfl rfl k'
    · cases h
  · -- 17
    split at h
    · cases h
      have k' := k hl1 (zz_lvt hl2) H locs la hP hS hl
      dsimp only [List.map_cons, zz_cv] at k' ⊢
      simp only [zz_cm, Bool.and_eq_true, decide_eq_true_eq] at hck
      obtain ⟨hd, hn⟩ := hck
      subst hn
      exact lv_pop hx hb hd rfl k'
    · cases h
  · -- 18
    split at h
    · next r st1 =>
      split at h
      · next ci fs hs =>
        have hr0 : r ∈ L := zz_lvh hl2
        obtain ⟨q, hq, hw⟩ := zz_cell (G := (l, D, ad, cA, L)) M hr0
        rw [zz_ce_o hs] at hw
        obtain ⟨qc, hqc, hqn⟩ := zz_sh_cl hs
        obtain ⟨h7, hT, hin, -, -⟩ := zz_cl_ok ci qc hqc
        obtain ⟨C, T, N⟩ := qc
        dsimp only at hqn hT hin hw
        simp only [zz_cm, Bool.and_eq_true, decide_eq_true_eq] at hck
        obtain ⟨hf, hn⟩ := hck
        obtain ⟨idx, hd, hlk2⟩ := zz_find_ok hf
        subst hn
        split at h
        · next hci =>
          have hci := Nat.eq_of_beq_eq_true hci
          subst hci
          subst hT
          rw [zz_nth_eq] at h
          have hget : ∀ f v, fs[y]? = some f → zz_f1 ad M r f y = v → (W p l e (zz_rm (y0, b, nL, ret, own, rm, stops, code)) s m args below meth c H locs 0 0 (MQ below (zz_Q (l, D, ad, cA, L) post) args s 0 0 (zz_A (l, D, ad, cA, L))) (F0 m (pc + 3) la (v :: st1.map (zz_cv ad)))) → W p l e (zz_rm (y0, b, nL, ret, own, rm, stops, code)) s m args below meth c H locs 0 0 (MQ below (zz_Q (l, D, ad, cA, L) post) args s 0 0 (zz_A (l, D, ad, cA, L))) (F0 m pc la (.ref (ad r) :: st1.map (zz_cv ad))) := by
            intro f v hfy hv kk
            have hy : y < N := by rw [hqn]; exact (List.getElem?_eq_some_iff.mp hfy).1
            exact va_get (D := D) hx hb hts hin hown hK.1 hP q hw hqc y hy (hts _ hlk2) (fun _ h9 => h9) (v := v) (by rw [zz_fv_get, hfy, ← hv]; simp) hd kk
          split at h
          · next n hfy =>
            split at h
            · next h1 =>
              cases h
              have h1 := Nat.eq_of_beq_eq_true h1
              subst h1
              exact hget _ _ hfy rfl (k hl1 (zz_lvc trivial (zz_lvt hl2)) H locs la hP hS hl)
            · next h1 =>
              cases h
              have h1 := Nat.ne_of_beq_eq_false h1
              exact hget _ (.int (M.1 r y)) hfy (by simp [zz_f1, h1]) (k hl1 (zz_lvc trivial (zz_lvt hl2)) H locs la hP hS hl)
          · next q2 hfy =>
            cases h
            exact hget _ _ hfy rfl (k hl1 (zz_lvc (hG.2.2.1 r hr0 _ _ hs q2 (List.mem_of_getElem? hfy)) (zz_lvt hl2)) H locs la hP hS hl)
          · cases h
        · cases h
      · cases h
    · cases h
  · -- 19
    split at h
    · next v r st1 =>
      split at h
      · next ci fs hs =>
        have hr0 : r ∈ L := zz_lvh (zz_lvt hl2)
        obtain ⟨q, hq, hw⟩ := zz_cell (G := (l, D, ad, cA, L)) M hr0
        rw [zz_ce_o hs] at hw
        obtain ⟨qc, hqc, hqn⟩ := zz_sh_cl hs
        obtain ⟨h7, hT, hin, ⟨ty0, hty0⟩, hnm⟩ := zz_cl_ok ci qc hqc
        obtain ⟨C, T, N⟩ := qc
        dsimp only at hqn hT hin hw hty0 hnm
        simp only [zz_cm, Bool.and_eq_true, decide_eq_true_eq, Bool.not_eq_true'] at hck
        obtain ⟨hf, hn, hds, hfn⟩ := hck
        obtain ⟨idx, hd, hlk2⟩ := zz_find_ok hf
        subst hn
        split at h
        · next hci =>
          have hci := Nat.eq_of_beq_eq_true hci
          subst hci
          subst hT
          rw [zz_nth_eq] at h
          split at h
          · next n hfy =>
            split at h
            · next h1 =>
              cases h
              have h1 := Nat.eq_of_beq_eq_true h1
              subst h1
              have hy : y < N := by rw [hqn]; exact (List.getElem?_eq_some_iff.mp hfy).1
              refine va_put (D := D) (v := .int v) hx hb hts hin ty0 hty0 hnm hown hK.1 hP hD hS q hw hqc y hy (hts _ hlk2) (fun _ h9 => h9) hfn hds rfl rfl (by rw [zz_fv_len]; exact (List.getElem?_eq_some_iff.mp hfy).1) hd (fun H1 locs1 hP1 hD1 hS1 => ?_)
              refine k hl1 (zz_lvt (zz_lvt hl2)) H1 locs1 la ?_ hS1 hl
              have hse : (zz_w (l, D, ad, cA, L) M).set q (ad r, .inr (ci, (zz_fv ad M r fs 0).set y (.int v))) = zz_w (l, D, ad, cA, L) (zz_set M r y v) := by
                rw [← zz_fv_set hfy (by decide), ← zz_ce_o (cA := cA) hs]
                exact zz_w_set (G := (l, D, ad, cA, L)) hG.1 hq (fun r' _ hne => zz_ce_ne hne)
              rw [hse] at hP1
              exact hP1
            · cases h
          · cases h
        · cases h
      · cases h
    · cases h
  · -- 20
    split at h
    · next v r st1 =>
      split at h
      · next ci fs hs =>
        have hr0 : r ∈ L := zz_lvh (zz_lvt hl2)
        obtain ⟨q, hq, hw⟩ := zz_cell (G := (l, D, ad, cA, L)) M hr0
        rw [zz_ce_o hs] at hw
        obtain ⟨qc, hqc, hqn⟩ := zz_sh_cl hs
        obtain ⟨h7, hT, hin, ⟨ty0, hty0⟩, hnm⟩ := zz_cl_ok ci qc hqc
        obtain ⟨C, T, N⟩ := qc
        dsimp only at hqn hT hin hw hty0 hnm
        simp only [zz_cm, Bool.and_eq_true, decide_eq_true_eq, Bool.not_eq_true'] at hck
        obtain ⟨hf, hn, hds, hfn⟩ := hck
        obtain ⟨idx, hd, hlk2⟩ := zz_find_ok hf
        subst hn
        split at h
        · next hci =>
          have hci := Nat.eq_of_beq_eq_true hci
          subst hci
          subst hT
          rw [zz_nth_eq] at h
          split at h
          · next n hfy =>
            split at h
            · next h1 =>
              cases h
              have h1 := Nat.eq_of_beq_eq_true h1
              subst h1
              have hy : y < N := by rw [hqn]; exact (List.getElem?_eq_some_iff.mp hfy).1
              refine va_put (D := D) (v := .int v) hx hb hts hin ty0 hty0 hnm hown hK.1 hP hD hS q hw hqc y hy (hts _ hlk2) (fun _ h9 => h9) hfn hds (zz_n01 (hp _ rfl)).1 (zz_n01 (hp _ rfl)).2.1 (by rw [zz_fv_len]; exact (List.getElem?_eq_some_iff.mp hfy).1) hd (fun H1 locs1 hP1 hD1 hS1 => ?_)
              refine k hl1 (zz_lvt (zz_lvt hl2)) H1 locs1 la ?_ hS1 hl
              have hse : (zz_w (l, D, ad, cA, L) M).set q (ad r, .inr (ci, (zz_fv ad M r fs 0).set y (.int v))) = zz_w (l, D, ad, cA, L) (zz_set M r y v) := by
                rw [← zz_fv_set hfy (by decide), ← zz_ce_o (cA := cA) hs]
                exact zz_w_set (G := (l, D, ad, cA, L)) hG.1 hq (fun r' _ hne => zz_ce_ne hne)
              rw [hse] at hP1
              exact hP1
            · cases h
          · cases h
        · cases h
      · cases h
    · cases h
  · -- 21
    split at h
    · next v r st1 =>
      split at h
      · next ci fs hs =>
        have hr0 : r ∈ L := zz_lvh (zz_lvt hl2)
        obtain ⟨q, hq, hw⟩ := zz_cell (G := (l, D, ad, cA, L)) M hr0
        rw [zz_ce_o hs] at hw
        obtain ⟨qc, hqc, hqn⟩ := zz_sh_cl hs
        obtain ⟨h7, hT, hin, ⟨ty0, hty0⟩, hnm⟩ := zz_cl_ok ci qc hqc
        obtain ⟨C, T, N⟩ := qc
        dsimp only at hqn hT hin hw hty0 hnm
        simp only [zz_cm, Bool.and_eq_true, decide_eq_true_eq, Bool.not_eq_true'] at hck
        obtain ⟨hf, hn, hds, hfn⟩ := hck
        obtain ⟨idx, hd, hlk2⟩ := zz_find_ok hf
        subst hn
        split at h
        · next hci =>
          have hci := Nat.eq_of_beq_eq_true hci
          subst hci
          subst hT
          rw [zz_nth_eq] at h
          split at h
          · next n hfy =>
            split at h
            · next h1 =>
              cases h
              have h1 := Nat.eq_of_beq_eq_true h1
              subst h1
              have hy : y < N := by rw [hqn]; exact (List.getElem?_eq_some_iff.mp hfy).1
              refine va_put (D := D) (v := .long v) hx hb hts hin ty0 hty0 hnm hown hK.1 hP hD hS q hw hqc y hy (hts _ hlk2) (fun _ h9 => h9) hfn hds rfl rfl (by rw [zz_fv_len]; exact (List.getElem?_eq_some_iff.mp hfy).1) hd (fun H1 locs1 hP1 hD1 hS1 => ?_)
              refine k hl1 (zz_lvt (zz_lvt hl2)) H1 locs1 la ?_ hS1 hl
              have h6 := hG.2.2.2.2 r hr0 _ _ hs (List.mem_of_getElem? hfy)
              have hse : (zz_w (l, D, ad, cA, L) M).set q (ad r, .inr (ci, (zz_fv ad M r fs 0).set y (.long v))) = zz_w (l, D, ad, cA, L) (zz_setl M v) := by
                have e1 : (zz_fv ad M r fs 0).set y (.long v) = zz_fv ad (zz_setl M v) r fs 0 := by
                  subst h6
                  cases hs
                  have h11 : y = 11 := by
                    match y, hfy with
                    | 11, _ => rfl
                    | 0, h => simp at h
                    | 1, h => simp at h
                    | 2, h => simp at h
                    | 3, h => simp at h
                    | 4, h => simp at h
                    | 5, h => simp at h
                    | 6, h => simp at h
                    | 7, h => simp at h
                    | 8, h => simp at h
                    | 9, h => simp at h
                    | 10, h => simp at h
                    | n + 12, h => simp at h
                  subst h11
                  rfl
                rw [e1, ← zz_ce_o (cA := cA) hs]
                refine zz_w_set (G := (l, D, ad, cA, L)) hG.1 hq (fun r' hr' hne => ?_)
                unfold zz_ce
                split
                · next ci2 fs2 hs2 =>
                  have h62 : Sum.inl 1 ∉ fs2 := fun hm => hne ((hG.2.2.2.2 r' hr' _ _ hs2 hm).trans h6.symm)
                  congr 2
                  apply List.ext_getElem?
                  intro j
                  rw [zz_fv_get, zz_fv_get]
                  cases hj : fs2[j]? with
                  | none => rfl
                  | some f =>
                    rcases f with f | f
                    · have : f ≠ 1 := fun e => h62 (e ▸ List.mem_of_getElem? hj)
                      simp [zz_f1, this, zz_setl]
                    · rfl
                · rfl
              rw [hse] at hP1
              exact hP1
            · cases h
          · cases h
        · cases h
      · cases h
    · cases h
  · -- 22
    split at h
    · next a r st1 =>
      split at h
      · next t n f hs =>
        have hr0 : r ∈ L := zz_lvh (zz_lvt hl2)
        obtain ⟨q, hq, hw⟩ := zz_cell (G := (l, D, ad, cA, L)) M hr0
        rw [zz_ce_a hs] at hw
        simp only [zz_cm, Bool.and_eq_true, decide_eq_true_eq] at hck
        obtain ⟨hd, hn⟩ := hck
        subst hn
        split at h
        · next ht =>
          have ht := Nat.eq_of_beq_eq_true ht
          subst ht
          cases h
          have k' := k hl1 (zz_lvc trivial (zz_lvt (zz_lvt hl2))) H locs la hP hS hl
          exact va_iald (D := D) (f := M.1 r) hx hb hK.1 hP q 0 hw rfl (hp _ rfl) hd k'
        · cases h
      · cases h
    · cases h
  · -- 23
    split at h
    · next v a r st1 =>
      split at h
      · next t n f hs =>
        have hr0 : r ∈ L := zz_lvh (zz_lvt (zz_lvt hl2))
        obtain ⟨q, hq, hw⟩ := zz_cell (G := (l, D, ad, cA, L)) M hr0
        rw [zz_ce_a hs] at hw
        simp only [zz_cm, Bool.and_eq_true, decide_eq_true_eq] at hck
        obtain ⟨hd, hn⟩ := hck
        subst hn
        split at h
        · next ht =>
          have ht := Nat.eq_of_beq_eq_true ht
          subst ht
          cases h
          refine va_iast (D := D) (f := M.1 r) (x := v) hx hb hK.1 hP hD hS q 0 hw rfl (hp _ rfl) hd (fun H1 locs1 hP1 hD1 hS1 => ?_)
          refine k hl1 (zz_lvt (zz_lvt (zz_lvt hl2))) H1 locs1 la ?_ hS1 hl
          have hse : (zz_w (l, D, ad, cA, L) M).set q (ad r, .inl (cA 0, n, .inl (upd (M.1 r) a.toNatClampNeg v))) = zz_w (l, D, ad, cA, L) (zz_set M r (zz_ix a) v) := by
            have e1 : (.inl (cA 0, n, .inl (upd (M.1 r) a.toNatClampNeg v)) : va_E) = zz_ce ad cA (zz_set M r (zz_ix a) v) r := by
              rw [zz_ce_a hs, zz_upd_set]; rfl
            rw [e1]
            exact zz_w_set (G := (l, D, ad, cA, L)) hG.1 hq (fun r' _ hne => zz_ce_ne hne)
          rw [hse] at hP1
          exact hP1
        · cases h
      · cases h
    · cases h
  · -- 24
    split at h
    · next a r st1 =>
      split at h
      · next t n f hs =>
        have hr0 : r ∈ L := zz_lvh (zz_lvt hl2)
        obtain ⟨q, hq, hw⟩ := zz_cell (G := (l, D, ad, cA, L)) M hr0
        rw [zz_ce_a hs] at hw
        simp only [zz_cm, Bool.and_eq_true, decide_eq_true_eq] at hck
        obtain ⟨hd, hn⟩ := hck
        subst hn
        split at h
        · next ht =>
          simp only [Bool.and_eq_true, Nat.ble_eq] at ht
          have hpn := hp
          cases h
          have hin := hp _ rfl
          have hlt : a.toNatClampNeg < n := Nat.not_le.mp fun q => hin (Or.inr q)
          have k' := k hl1 (zz_lvc (v := .inr (.inr (f (zz_ix a)))) (hG.2.2.2.1 r hr0 _ _ _ hs ht.1 _ hlt) (zz_lvt (zz_lvt hl2))) H locs la hP hS hl
          rw [if_neg (by omega)] at hw
          rcases (show t = 2 ∨ t = 3 by omega) with rfl | rfl
          · exact va_aldq (D := D) hx hb hK.1 hP q 2 hw rfl hin hd k'
          · exact va_aldq (D := D) hx hb hK.1 hP q 3 hw rfl hin hd k'
        · cases h
      · cases h
    · cases h
  · -- 25
    split at h
    · next a r st1 =>
      split at h
      · next t n f hs =>
        have hr0 : r ∈ L := zz_lvh (zz_lvt hl2)
        obtain ⟨q, hq, hw⟩ := zz_cell (G := (l, D, ad, cA, L)) M hr0
        rw [zz_ce_a hs] at hw
        simp only [zz_cm, Bool.and_eq_true, decide_eq_true_eq] at hck
        obtain ⟨hd, hn⟩ := hck
        subst hn
        split at h
        · next ht =>
          have ht := Nat.eq_of_beq_eq_true ht
          subst ht
          cases h
          have k' := k hl1 (zz_lvc trivial (zz_lvt (zz_lvt hl2))) H locs la hP hS hl
          exact va_zald (D := D) (f := M.1 r) hx hb hK.1 hP q 1 hw rfl (hp _ rfl) hd k'
        · cases h
      · cases h
    · cases h
  · -- 26
    split at h
    · next v a r st1 =>
      split at h
      · next t n f hs =>
        have hr0 : r ∈ L := zz_lvh (zz_lvt (zz_lvt hl2))
        obtain ⟨q, hq, hw⟩ := zz_cell (G := (l, D, ad, cA, L)) M hr0
        rw [zz_ce_a hs] at hw
        simp only [zz_cm, Bool.and_eq_true, decide_eq_true_eq] at hck
        obtain ⟨hd, hn⟩ := hck
        subst hn
        split at h
        · next ht =>
          have ht := Nat.eq_of_beq_eq_true ht
          subst ht
          cases h
          refine va_zast (D := D) (f := M.1 r) (x := v) hx hb hK.1 hP hD hS q 1 hw rfl (hp _ rfl).1 hd (fun H1 locs1 hP1 hD1 hS1 => ?_)
          refine k hl1 (zz_lvt (zz_lvt (zz_lvt hl2))) H1 locs1 la ?_ hS1 hl
          have hse : (zz_w (l, D, ad, cA, L) M).set q (ad r, .inl (cA 1, n, .inl (upd (M.1 r) a.toNatClampNeg v))) = zz_w (l, D, ad, cA, L) (zz_set M r (zz_ix a) v) := by
            have e1 : (.inl (cA 1, n, .inl (upd (M.1 r) a.toNatClampNeg v)) : va_E) = zz_ce ad cA (zz_set M r (zz_ix a) v) r := by
              rw [zz_ce_a hs, zz_upd_set]; rfl
            rw [e1]
            exact zz_w_set (G := (l, D, ad, cA, L)) hG.1 hq (fun r' _ hne => zz_ce_ne hne)
          rw [(zz_n01 (hp _ rfl).2).2.2] at hP1; rw [hse] at hP1
          exact hP1
        · cases h
      · cases h
    · cases h
  · -- 27
    split at h
    · next r st1 =>
      split at h
      · next t n f hs =>
        have hr0 : r ∈ L := zz_lvh hl2
        obtain ⟨q, hq, hw⟩ := zz_cell (G := (l, D, ad, cA, L)) M hr0
        rw [zz_ce_a hs] at hw
        simp only [zz_cm, Bool.and_eq_true, decide_eq_true_eq] at hck
        obtain ⟨hd, hn⟩ := hck
        subst hn
        split at h
        · next ht =>
          cases h
          have k' := k hl1 (zz_lvc trivial (zz_lvt hl2)) H locs la hP hS hl
          have ht4 := zz_sh_t hs
          rcases (show t = 0 ∨ t = 1 ∨ t = 2 ∨ t = 3 by omega) with rfl | rfl | rfl | rfl
          · exact va_alen (D := D) hx hb hK.1 hP q 0 hw rfl rfl hd k'
          · exact va_alen (D := D) hx hb hK.1 hP q 1 hw rfl rfl hd k'
          · exact va_alen (D := D) hx hb hK.1 hP q 2 hw rfl rfl hd k'
          · exact va_alen (D := D) hx hb hK.1 hP q 3 hw rfl rfl hd k'
        · cases h
      · cases h
    · cases h
  · -- 30
    split at h
    · next b1 a1 st1 =>
      split at h
      · next h8 =>
        cases h
        have h8 := Nat.le_of_ble_eq_true h8
        have k' := k hl1 (zz_lvc trivial (zz_lvt (zz_lvt hl2))) H locs la hP hS hl
        simp only [zz_cm, Bool.and_eq_true, decide_eq_true_eq, List.any_eq_true] at hck
        obtain ⟨⟨q, hq, h1, h2, hd⟩, hn, hf1, hf2⟩ := hck
        subst hn
        have hlnk := zz_smx_ok q hq
        rw [h1, h2] at hlnk
        exact va_mmax hx hb (by rw [hml]; exact hl.1.symm) hown (hts _ hlnk) (hts _ zz_stmx) (hts _ zz_inim) (hts _ zz_comx) hf1 (by rw [zz_sum_eq]; exact Nat.le_trans (Nat.add_le_add_right h8 13) hf2) (Nat.le_refl _) (Nat.le_refl _) hd k'
      · cases h
    · cases h
  · -- 31
    split at h
    · next b1 a1 st1 =>
      split at h
      · next h8 =>
        cases h
        have h8 := Nat.le_of_ble_eq_true h8
        have k' := k hl1 (zz_lvc trivial (zz_lvt (zz_lvt hl2))) H locs la hP hS hl
        simp only [zz_cm, Bool.and_eq_true, decide_eq_true_eq, List.any_eq_true] at hck
        obtain ⟨⟨q, hq, h1, h2, hd⟩, hn, hf1, hf2⟩ := hck
        subst hn
        have hlnk := zz_smx_ok q hq
        rw [h1, h2] at hlnk
        exact va_mmin hx hb (by rw [hml]; exact hl.1.symm) hown (hts _ hlnk) (hts _ zz_stmn) (hts _ zz_inim) (hts _ zz_comn) hf1 (by rw [zz_sum_eq]; exact Nat.le_trans (Nat.add_le_add_right h8 13) hf2) (Nat.le_refl _) (Nat.le_refl _) hd k'
      · cases h
    · cases h
  · -- 32
    split at h
    · next n dp a1 sp a0 st1 =>
      split at h
      · next t0 n0 f0 t1 n1 f1 hs0 hs1 =>
        split at h
        · next ht =>
          simp only [Bool.and_eq_true, Nat.ble_eq] at ht
          obtain ⟨ht0, ht1, h8⟩ := ht
          have ht0 := Nat.eq_of_beq_eq_true ht0
          have ht1 := Nat.eq_of_beq_eq_true ht1
          subst ht0; subst ht1
          cases h
          have hr1 : a1 ∈ L := zz_lvh (zz_lvt (zz_lvt hl2))
          have hr0 : a0 ∈ L := zz_lvh (zz_lvt (zz_lvt (zz_lvt (zz_lvt hl2))))
          obtain ⟨q0, hq0, hw0⟩ := zz_cell (G := (l, D, ad, cA, L)) M hr0
          obtain ⟨q1, hq1, hw1⟩ := zz_cell (G := (l, D, ad, cA, L)) M hr1
          rw [zz_ce_a hs0] at hw0
          rw [zz_ce_a hs1] at hw1
          simp only [zz_cm, Bool.and_eq_true, decide_eq_true_eq, List.any_eq_true] at hck
          obtain ⟨⟨q, hq, h1, h2, hd⟩, hn, hf1, hf2⟩ := hck
          subst hn
          have hlnk := zz_smx_ok q hq
          rw [h1, h2] at hlnk
          obtain ⟨p1, p2, p3, p4, p5⟩ := hp _ rfl
          refine va_copyi (D := D) (f := M.1 a0) (g := M.1 a1) (ty := .int) hx hb (by rw [hml]; exact hl.1.symm) hown (hts _ hlnk) (hts _ zz_ntac) (hts _ zz_stac) (hts _ zz_inis) hK.1 hP hD hS q0 q1 0 0 hw0 hw1 rfl rfl rfl p1 p2 p3 p4 p5 (fun _ _ => rfl) hf1 (by rw [zz_sum_eq]; exact Nat.le_trans (Nat.add_le_add_right h8 _) hf2) hd (fun H1 locs1 hP1 hD1 hS1 => ?_)
          refine k hl1 (zz_lvt (zz_lvt (zz_lvt (zz_lvt (zz_lvt hl2))))) H1 locs1 la ?_ hS1 hl
          have hse : (zz_w (l, D, ad, cA, L) M).set q1 (ad a1, .inl (cA 0, n1, .inl (va_cpy (M.1 a0) (M.1 a1) sp.toNatClampNeg dp.toNatClampNeg n.toNatClampNeg))) = zz_w (l, D, ad, cA, L) (zz_cpy M a0 a1 (zz_ix sp) (zz_ix dp) (zz_ix n)) := by
            have e1 : (.inl (cA 0, n1, .inl (va_cpy (M.1 a0) (M.1 a1) sp.toNatClampNeg dp.toNatClampNeg n.toNatClampNeg)) : va_E) = zz_ce ad cA (zz_cpy M a0 a1 (zz_ix sp) (zz_ix dp) (zz_ix n)) a1 := by
              rw [zz_ce_a hs1]
              simp [zz_cpy, zz_ix]
            rw [e1]
            refine zz_w_set (G := (l, D, ad, cA, L)) hG.1 hq1 (fun r' _ hne => ?_)
            unfold zz_ce
            split
            · next ci fs hs =>
              congr 2
              apply List.ext_getElem?
              intro j
              rw [zz_fv_get, zz_fv_get]
              congr 1
              funext f
              rcases f with f | f
              · simp [zz_f1, zz_cpy, hne]
              · rfl
            · next t n f hs =>
              congr 3
              split
              · congr 1
                funext j
                simp [zz_cpy, hne]
              · rfl
          rw [hse] at hP1
          exact hP1
        · cases h
      · cases h
    · cases h
  · -- 33
    cases h
    have k' := k hl1 (zz_lvc trivial hl2) H locs la hP hS hl
    dsimp only [List.map_cons, zz_cv] at k'
    simp only [zz_cm, Bool.and_eq_true, decide_eq_true_eq, List.any_eq_true] at hck
    obtain ⟨⟨q, hq, h1, h2, hd⟩, hn, hx2⟩ := hck
    subst hn; subst h2
    exact lv_ldc2 hx hb hown (hts _ (h1 ▸ zz_cl2_ok q hq)) hd k'
  · cases h
