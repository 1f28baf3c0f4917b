set_option maxHeartbeats 4000000 in
/-- an instruction that neither branches nor calls: the machine does what the pure one does -/
theorem zz_sd {G : zG} {Z : zC} {md : zD} {post : Option zV → zM → Prop} (ok : zz_ok G Z md) {pc op x y npc : Nat} {i : Int32} {ls ls' : zL} {st st' : List zV} {M M' : zM} {P : Option Prop}
    (he : (pc, op, i, x, y, npc) ∈ md.2.2.2.2.2.2.2) (h : zz_stp op i x y ls st M = some (P, ls', st', M')) (hp : ∀ p, P = some p → p) (k : zz_W G Z md post npc ls' st' M') : zz_W G Z md post pc ls st M := by
  obtain ⟨l, D, ad, cA, L⟩ := G
  obtain ⟨p, e, s, m, args, below, meth, c⟩ := Z
  obtain ⟨y0, b, nL, ret, own, rm, stops, code⟩ := md
  obtain ⟨hG, hx, hb, hr, hml, hown, hts, hlk, hK, hmd⟩ := ok
  have hck := hmd _ he
  dsimp only at hck hx hb hr hml hown hts hlk he
  intro hl1 hl2 H locs la hP hS hl
  have hD := zz_D hG M
  dsimp only at hl1 hl2 hP hS hl ⊢
  unfold zz_stp at h
  split at h
  · -- 0: a constant
    cases h
    have k' := k hl1 (zz_lvc trivial hl2) H locs la hP hS hl
    dsimp only [List.map_cons, zz_cv] at k'
    simp only [zz_cm, Bool.or_eq_true, Bool.and_eq_true, decide_eq_true_eq, List.any_eq_true] at hck
    rcases hck with ⟨hd, hn⟩ | ⟨hd, hn, hv⟩ | ⟨hd, hn, hv⟩ | ⟨q, hq, h1, h2, ⟨hd, hn⟩ | ⟨hd, hn⟩⟩
    · subst hn; exact lv_iconst hx hb hd (zz_ofI i) k'
    · subst hn; exact lv_bipush hx hb hd hv k'
    · subst hn; exact lv_sipush hx hb hd hv k'
    · subst hn; subst h2; exact lv_ldc hx hb hown (hts _ (h1 ▸ zz_cs_ok q hq)) hd k'
    · subst hn; subst h2; exact lv_ldcw hx hb hown (hts _ (h1 ▸ zz_cs_ok q hq)) hd k'
  all_goals sorry
theorem i_vc : Claimed_1_1 ∧ Claimed_1_2 := sorry
