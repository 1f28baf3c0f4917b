def snp (d : Int) (n : Nat) (M : zM) (k : Nat) : Prop := yRel (k + 1) M (fun i => M.1 (21, 0, 0) (1735 * k + i)) ∧ yR (k + 1) M (fun i => M.1 (21, 0, 0) (1735 * k + i)) ∧ Vn d n (fun i => M.1 (21, 0, 0) (1735 * k + i)) ∧ Sf (al (fun i => M.1 (21, 0, 0) (1735 * k + i))) (an (fun i => M.1 (21, 0, 0) (1735 * k + i)))
def sns (d : Int) (n : Nat) (M : zM) : Prop := ∀ k, k < 2 → M.1 (15, 0, 0) k = M.1 (22, 0, 0) k ∧ (¬ M.1 (22, 0, 0) k = 0 → snp d n M k)
def txt (M : zM) (l : Nat) : Prop := l ≤ 100 ∧ M.1 (2, 0, 0) 4 = nI l ∧ M.1 (6, 0, 0) 5 = nI l ∧ ∀ i, i < l → M.1 (16, 0, 0) i = M.1 (23, 0, 0) i
def rsl (M : zM) (r : Nat) : Prop := r ≤ 34 ∧ M.1 (2, 0, 0) 6 = nI r ∧ M.1 (6, 0, 0) 6 = nI r ∧ ∀ i, i < r → M.1 (19, 0, 0) i = M.1 (24, 0, 0) i
def INV (d : Int) (n : Nat) (M : zM) : Prop := Ok d n M (M.1 (20, 0, 0)) ∧ yD d M M ∧ sns d n M ∧ (∃ l, txt M l) ∧ ∃ r, rsl M r
/-- the relation of a world looks only at its own cells, and at the first 1735 numbers -/
theorem yRel_cc {d : Int} {n w : Nat} {M M' : zM} {f f' : Nat → Int32} (h : yRel w M f) (hr : yR w M f) (hV : Vn d n f) (hM : ∀ r i, r.2.1 = w → r.1 ≤ 13 → ¬ r.1 = 2 → ¬ r.1 = 6 → M'.1 r i = M.1 r i) (hf : ∀ i, i < 1735 → f' i = f i) : yRel w M' f' ∧ yR w M' f' := by
  obtain ⟨a1, a2, a3, a4, a5, a6, a7, a8, a9⟩ := h
  have co : ∀ t, t ≤ 13 ∧ ¬ t = 2 ∧ ¬ t = 6 → ∀ j i : Nat, M'.1 (t, w, j) i = M.1 (t, w, j) i := fun t ht j i => hM _ _ rfl ht.1 ht.2.1 ht.2.2
  refine ⟨⟨?_, ?_, ?_, ?_, ?_, ?_, ?_, ?_, ?_⟩, ?_⟩
  · exact yT_c a1 (fun i => co 4 (by omega) _ _) (hf _ (by omega)) (hf _ (by omega)) (hf _ (by omega))
  · exact yS_c a2 (fun u hu i => co 3 (by omega) _ _) (fun i hi => hf _ (by omega))
  · exact yK_c a3 (fun i => co 10 (by omega) _ _) (fun i _ _ => hf _ (by omega))
  · exact yL_c a4 (fun u hu => (Vn_len hV hu).2) (fun u hu => co 1 (by omega) _ _) (fun u hu => co 0 (by omega) _ _) (fun u hu i => co 7 (by omega) _ _) (fun i hi => hf _ (by omega))
  · exact yH_c a5 (Vn_hist hV).2 (co 1 (by omega) _ _) (co 0 (by omega) _ _) (fun i => co 7 (by omega) _ _) (fun i _ _ => hf _ (by omega))
  · exact yO_c a6 (fun u hu => (Vn_due hV hu).2) (fun u hu => co 1 (by omega) _ _) (fun u hu i => co 7 (by omega) _ _) (fun i _ _ => hf _ (by omega))
  · exact yG_c a7 (Vn_kept hV).2 (co 1 (by omega) _ _) (fun i => co 7 (by omega) _ _) (fun i _ _ _ => hf _ (by omega))
  · exact yC_c a8 (fun i => co 12 (by omega) _ _) (fun i => co 13 (by omega) _ _) (fun i _ _ => hf _ (by omega))
  · exact yM_c a9 (Vn_sent hV).2 (co 1 (by omega) _ _) (fun i => co 7 (by omega) _ _) (fun i _ _ => hf _ (by omega))
  · exact yR_c hr (fun i => co 11 (by omega) _ _) (fun i _ _ => hf _ (by omega))
theorem Vn_cc {d : Int} {n n' : Nat} {f f' : Nat → Int32} (hV : Vn d n f) (hn : n ≤ n') (hf : ∀ i, i < 1735 → f' i = f i) : Vn d n' f' := by
  refine Vn_g (Vn_up hV hn) (fun i hi => Or.inl (hf _ (by unfold mwi at hi; omega))) (by rw [hf _ (by omega)]; exact hV.2.1) (fun u hu => ?_) (fun i _ _ => hf _ (by omega))
  unfold Vs
  rw [hf _ (by omega), hf _ (by omega), hf _ (by omega), hf _ (by omega), hf _ (by omega)]
  exact (Vn_up hV hn).2.2.1 u hu
theorem Ok_cc {d : Int} {n n' : Nat} {M M' : zM} {f f' : Nat → Int32} (h : Ok d n M f) (hn : n ≤ n') (hM : ∀ r i, r.2.1 = 0 → r.1 ≤ 13 → ¬ r.1 = 2 → ¬ r.1 = 6 → M'.1 r i = M.1 r i) (hf : ∀ i, i < 1735 → f' i = f i) : Ok d n' M' f' := by
  obtain ⟨x, y⟩ := yRel_cc h.1.1 h.2.1 h.1.2 hM hf
  exact ⟨⟨x, Vn_cc h.1.2 hn hf⟩, y, Sf_c h.2.2 (fun i hi => hf _ (by omega))⟩
theorem snp_c {d : Int} {n n' k : Nat} {M M' : zM} (hn : n ≤ n') (hk : k < 2) (h : snp d n M k) (hM : ∀ r i, r.2.1 = k + 1 → r.1 ≤ 13 → ¬ r.1 = 2 → ¬ r.1 = 6 → M'.1 r i = M.1 r i) (hf : ∀ i, 1735 * k ≤ i → i < 1735 * k + 1735 → M'.1 (21, 0, 0) i = M.1 (21, 0, 0) i) : snp d n' M' k := by
  obtain ⟨a, b, c, e⟩ := h
  obtain ⟨x, y⟩ := yRel_cc (f' := fun i => M'.1 (21, 0, 0) (1735 * k + i)) a b c hM (fun i hi => hf _ (by omega) (by omega))
  exact ⟨x, y, Vn_cc c hn (fun i hi => hf _ (by omega) (by omega)), Sf_c e (fun i hi => hf _ (by omega) (by omega))⟩
theorem oc_w {r : zR} {i : Nat} (h : ¬ r.2.1 = 0) : oc r i = true := by
  unfold oc
  have : Nat.beq r.2.1 0 = false := Bool.eq_false_iff.mpr (fun z => h (Nat.eq_of_beq_eq_true z))
  rw [this]; simp
theorem oc_t {r : zR} {i : Nat} (h : 14 ≤ r.1) : oc r i = true := by
  unfold oc
  rw [Nat.ble_eq_true_of_le h]; simp
section IN
variable {d : Int} {n n' : Nat} {M M1 M2 : zM}
theorem sns_c (hn : n ≤ n') (h : sns d n M) (hM : ∀ r i, oc r i = true → ¬ r = (20, 0, 0) → M2.1 r i = M.1 r i) : sns d n' M2 := fun k hk => by
  obtain ⟨a, b⟩ := h k hk
  rw [hM _ _ rfl (by simp), hM _ _ rfl (by simp)]
  refine ⟨a, fun z => snp_c hn hk (b z) (fun r i h1 h2 _ _ => hM r i (oc_w (by omega)) (fun y => by rw [y] at h2; exact absurd (show 20 ≤ 13 from h2) (by decide))) (fun i _ _ => hM _ _ rfl (by simp))⟩
theorem txt_c {l : Nat} (h : txt M l) (hM : ∀ r i, oc r i = true → ¬ r = (20, 0, 0) → M2.1 r i = M.1 r i) : txt M2 l := by
  obtain ⟨a, b, c, e⟩ := h
  refine ⟨a, by rw [hM _ _ rfl (by simp)]; exact b, by rw [hM _ _ rfl (by simp)]; exact c, fun i hi => ?_⟩
  rw [hM _ _ rfl (by simp), hM _ _ rfl (by simp)]; exact e i hi
theorem rsl_c {l : Nat} (h : rsl M l) (hM : ∀ r i, oc r i = true → ¬ r = (20, 0, 0) → M2.1 r i = M.1 r i) : rsl M2 l := by
  obtain ⟨a, b, c, e⟩ := h
  refine ⟨a, by rw [hM _ _ rfl (by simp)]; exact b, by rw [hM _ _ rfl (by simp)]; exact c, fun i hi => ?_⟩
  rw [hM _ _ rfl (by simp), hM _ _ rfl (by simp)]; exact e i hi
theorem INV_up (I : INV d n M) (hn : n ≤ n') : INV d n' M := by
  obtain ⟨a, b, c, e, f⟩ := I
  exact ⟨Ok_up a hn, b, sns_c hn c (fun _ _ _ _ => rfl), e, f⟩
theorem pre (I : INV d n M) (f : fr M M1) : Ok d n M (M1.1 (20, 0, 0)) ∧ yD d M M1 := by
  have e : M1.1 (20, 0, 0) = M.1 (20, 0, 0) := by funext i; exact f.2 _ _ rfl
  rw [e]
  exact ⟨I.1, yD_c I.2.1 rfl (f.2 _ _ rfl)⟩
theorem st1 (I : INV d n M) (f : fr M M1) (m : mfr M1 M2) (ok : Ok d n' M1 (M2.1 (20, 0, 0))) (hn : n ≤ n') : INV d n' M2 := by
  obtain ⟨_, b, c, ⟨l, e⟩, ⟨r, g⟩⟩ := I
  have hM : ∀ r i, oc r i = true → ¬ r = (20, 0, 0) → M2.1 r i = M.1 r i := fun r i h1 h2 => (m.2 r i h2).trans (f.2 r i h1)
  refine ⟨RV_o ok (fun r i hr => m.2 r i (fun z => by rw [z] at hr; exact absurd (show 20 ≤ 13 from hr) (by decide))), yD_c b (hM _ _ rfl (by simp)) (hM _ _ rfl (by simp)), sns_c hn c hM, ⟨l, txt_c e hM⟩, ⟨r, rsl_c g hM⟩⟩
theorem i_mw (I : INV d n M) (f : fr M M1) : mw M1 := (pre I f).1.1.2.1
theorem s_mdl {f : Nat → Int32} (h : Sf (al f) (an f)) {s : Nat} (hs : s < 5) : fl f (71 + s) ≤ fl f (51 + s) := by
  have h1 := sf_due hs h
  obtain ⟨_, _, _, _, _, _, _, _, DN, _⟩ := id h
  have h2 := (DN s hs).2.1
  rw [an2 _ hs, an1 _ hs] at h1
  rw [an1 _ hs, an0 _ hs] at h2
  omega
theorem i_mdl (I : INV d n M) (f : fr M M1) : mdl M1 := fun _ hs => s_mdl (pre I f).1.2.2 hs
theorem i_mcl (I : INV d n M) (f : fr M M1) : mcl M1 := fun k hk => ((pre I f).1.1.2.2.2.2 k hk).1
theorem r_wr {w : Nat} {f : Nat → Int32} (h : yRel w M f) (hV : Vn d n f) : wr M w := by
  obtain ⟨_, _, _, a4, a5, a6, a7, _, a9⟩ := h
  have sz : ∀ {j i : Nat}, M.1 (1, w, j) 1 = f i → mwi i → mwb i * 4 ≤ zz_rl j → M.1 (1, w, j) 1 = nI (rn M w j) ∧ rn M w j * 4 ≤ zz_rl j := fun {j i} e hi hb => by
    have e1 : rn M w j = fl f i := by unfold rn fl; rw [e]
    have h2 := hV.1 i hi
    rw [e1]
    exact ⟨by rw [e]; exact h2.1, by omega⟩
  have b40 : ∀ {i : Nat}, ¬ i = 1437 → ¬ i = 1647 → mwb i = 40 := fun h1 h2 => by unfold mwb; rw [if_neg h1, if_neg h2]
  have z160 : ∀ {j : Nat}, ¬ j = 11 → ¬ j = 12 → zz_rl j = 160 := fun h1 h2 => by unfold zz_rl; rw [if_neg h1, if_neg h2]
  intro j hj
  by_cases h1 : j < 5
  · exact sz (a4 j h1).1 (by unfold mwi; omega) (by rw [b40 (by omega) (by omega), z160 (by omega) (by omega)]; decide)
  · by_cases h2 : j = 5
    · subst h2; exact sz a5.1 (by unfold mwi; omega) (by decide)
    · by_cases h3 : j < 11
      · have e := (a6 (j - 6) (by omega)).1
        rw [show 6 + (j - 6) = j by omega] at e
        exact sz e (by unfold mwi; omega) (by rw [b40 (by omega) (by omega), z160 (by omega) (by omega)]; decide)
      · by_cases h4 : j = 11
        · subst h4; exact sz a7.1 (by unfold mwi; omega) (by decide)
        · have h5 : j = 12 := by omega
          subst h5; exact sz a9.1 (by unfold mwi; omega) (by decide)
theorem i_wr (I : INV d n M) : wr M 0 := r_wr I.1.1.1 I.1.1.2
theorem i_wc (I : INV d n M) : wc M 0 := by
  obtain ⟨⟨⟨_, _, _, a4, a5, _⟩, hV⟩, _, hS⟩ := I.1
  intro s hs
  by_cases z : s = 5
  · subst z
    have h2 := Vn_hist hV
    have e1 : cmn M 0 5 = fl (M.1 (20, 0, 0)) 1436 := by unfold cmn fl; rw [a5.2.1]
    have e2 : rn M 0 5 = fl (M.1 (20, 0, 0)) 1436 := by unfold rn fl; rw [a5.1]
    rw [e1, e2]
    exact ⟨by rw [a5.2.1]; exact h2.1, Nat.le_refl _⟩
  · have h5 : s < 5 := by omega
    have h2 := Vn_done hV h5
    have e1 : cmn M 0 s = fl (M.1 (20, 0, 0)) (56 + s) := by unfold cmn fl; rw [(a4 s h5).2.1]
    have e2 : rn M 0 s = fl (M.1 (20, 0, 0)) (51 + s) := by unfold rn fl; rw [(a4 s h5).1]
    rw [e1, e2]
    exact ⟨by rw [(a4 s h5).2.1]; exact h2.1, (done_le (Mm := M) hS h5).1⟩
theorem m_setClock_fr {a b : Int32} : mfr M (m_setClock M a b).2 := by
  unfold m_setClock; split
  · exact mfr_rfl
  · exact mfr_s mfr_rfl
theorem m_send_fr {a c v : Int32} : mfr M (m_send M a c v).2 := by
  unfold m_send; split
  · exact mfr_rfl
  · split
    · exact mfr_rfl
    · split
      · exact mfr_rfl
      · exact mfr_s (mfr_s (mfr_s (mfr_s (mfr_s mfr_rfl))))
theorem m_deliver_fr {k : Int32} : mfr M (m_deliver M k).2 := by
  unfold m_deliver m_dv; split
  · exact mfr_rfl
  · split
    · exact mfr_rfl
    · split
      · exact mfr_s (mfr_s mfr_rfl)
      · exact mfr_s (mfr_s (mfr_s mfr_rfl))
theorem t_setClock {a b : Int32} (I : INV d n M) : (L_setClock M a b).1 = (m_setClock (L_setClock M a b).2 a b).1 ∧ INV d (n + 34) (m_setClock (L_setClock M a b).2 a b).2 := by
  have f := @L_setClock_fr M a b
  obtain ⟨p1, p2⟩ := pre I f
  obtain ⟨x1, x2⟩ := x_setClock (a := a) (b := b) p1 p2
  exact ⟨x1, INV_up (st1 I f m_setClock_fr x2 (by omega)) (by omega)⟩
theorem t_pass {t : Int32} (I : INV d n M) : (L_pass M t).1 = (m_pass (L_pass M t).2 t).1 ∧ INV d (n + 34) (m_pass (L_pass M t).2 t).2 := by
  have f := @L_pass_fr M t
  obtain ⟨p1, p2⟩ := pre I f
  obtain ⟨x1, x2⟩ := x_pass (t := t) p1 p2
  exact ⟨x1, INV_up (st1 I f m_pass_fr x2 (by omega)) (by omega)⟩
theorem t_setState {a x : Int32} (I : INV d n M) : (L_setState M a x).1 = (m_setState (L_setState M a x).2 a x).1 ∧ INV d (n + 34) (m_setState (L_setState M a x).2 a x).2 := by
  have f := @L_setState_fr M a x
  obtain ⟨p1, p2⟩ := pre I f
  obtain ⟨x1, x2⟩ := x_setState (a := a) (x := x) p1
  exact ⟨x1, INV_up (st1 I f m_setState_fr x2 (by omega)) (by omega)⟩
theorem t_setLink {a b u : Int32} (I : INV d n M) : (L_setLink M a b u).1 = (m_setLink (L_setLink M a b u).2 a b u).1 ∧ INV d (n + 34) (m_setLink (L_setLink M a b u).2 a b u).2 := by
  have f := @L_setLink_fr M a b u
  obtain ⟨p1, p2⟩ := pre I f
  obtain ⟨x1, x2⟩ := x_setLink (a := a) (b := b) (u := u) p1
  exact ⟨x1, INV_up (st1 I f m_setLink_fr x2 (by omega)) (by omega)⟩
theorem t_acquire {a e : Int32} (I : INV d n M) (hn : n < 1000000) : (L_acquire M a e).1 = (m_acquire (L_acquire M a e).2 a e).1 ∧ INV d (n + 34) (m_acquire (L_acquire M a e).2 a e).2 := by
  have f := @L_acquire_fr M a e
  obtain ⟨p1, p2⟩ := pre I f
  obtain ⟨x1, x2⟩ := x_acquire (a := a) (dur := e) p1 p2 hn
  exact ⟨x1, INV_up (st1 I f m_acquire_fr x2 (by omega)) (by omega)⟩
theorem t_renew {a e : Int32} (I : INV d n M) : (L_renew M a e).1 = (m_renew (L_renew M a e).2 a e).1 ∧ INV d (n + 34) (m_renew (L_renew M a e).2 a e).2 := by
  have f := @L_renew_fr M a e
  obtain ⟨p1, p2⟩ := pre I f
  obtain ⟨x1, x2⟩ := x_renew (a := a) (dur := e) p1 p2
  exact ⟨x1, INV_up (st1 I f m_renew_fr x2 (by omega)) (by omega)⟩
theorem t_giveUp {a : Int32} (I : INV d n M) : (L_giveUp M a).1 = (m_giveUp (L_giveUp M a).2 a).1 ∧ INV d (n + 34) (m_giveUp (L_giveUp M a).2 a).2 := by
  have f := @L_giveUp_fr M a
  obtain ⟨p1, p2⟩ := pre I f
  obtain ⟨x1, x2⟩ := x_giveUp (a := a) p1 p2
  exact ⟨x1, INV_up (st1 I f m_giveUp_fr x2 (by omega)) (by omega)⟩
theorem t_handOver {a b e : Int32} (I : INV d n M) (hn : n < 1000000) : (L_handOver M a b e).1 = (m_handOver (L_handOver M a b e).2 a b e).1 ∧ INV d (n + 34) (m_handOver (L_handOver M a b e).2 a b e).2 := by
  have f := @L_handOver_fr M a b e
  obtain ⟨p1, p2⟩ := pre I f
  obtain ⟨x1, x2⟩ := x_handOver (a := a) (b := b) (dur := e) p1 p2 hn
  exact ⟨x1, INV_up (st1 I f m_handOver_fr x2 (by omega)) (by omega)⟩
theorem t_write {a b c : Int32} (I : INV d n M) : (L_write M a b c).1 = (m_write (L_write M a b c).2 a b c).1 ∧ INV d (n + 34) (m_write (L_write M a b c).2 a b c).2 := by
  have f := @L_write_fr M a b c
  obtain ⟨p1, p2⟩ := pre I f
  obtain ⟨x1, x2⟩ := x_write (a := a) (b := b) (c := c) p1 p2
  exact ⟨x1, INV_up (st1 I f m_write_fr x2 (by omega)) (by omega)⟩
theorem t_barrier {a : Int32} (I : INV d n M) : (L_barrier M a).1 = (m_barrier (L_barrier M a).2 a).1 ∧ INV d (n + 34) (m_barrier (L_barrier M a).2 a).2 := by
  have f := @L_barrier_fr M a
  obtain ⟨p1, p2⟩ := pre I f
  obtain ⟨x1, x2⟩ := x_barrier (a := a) p1 p2
  exact ⟨x1, INV_up (st1 I f m_barrier_fr x2 (by omega)) (by omega)⟩
theorem t_send {a c v : Int32} (I : INV d n M) : (L_send M a c v).1 = (m_send (L_send M a c v).2 a c v).1 ∧ INV d (n + 34) (m_send (L_send M a c v).2 a c v).2 := by
  have f := @L_send_fr M a c v
  obtain ⟨p1, p2⟩ := pre I f
  obtain ⟨x1, x2⟩ := x_send (a := a) (c := c) (v := v) p1 p2
  exact ⟨x1, INV_up (st1 I f m_send_fr x2 (by omega)) (by omega)⟩
theorem t_deliver {a : Int32} (I : INV d n M) : (L_deliver M a).1 = (m_deliver (L_deliver M a).2 a).1 ∧ INV d (n + 34) (m_deliver (L_deliver M a).2 a).2 := by
  have f := @L_deliver_fr M a
  obtain ⟨p1, p2⟩ := pre I f
  obtain ⟨x1, x2⟩ := x_deliver (a := a) p1
  exact ⟨x1, INV_up (st1 I f m_deliver_fr x2 (by omega)) (by omega)⟩
end IN
