section WL
variable {d : Int} {n s : Nat} {Mc Mm : zM} {t cb : Int32}
def WG (M : zM) (s : Nat) (t : Int32) (u : Nat) : Bool := decide (¬ u = s) && (m_re M s u && decide (¬ t < q M (36 + u)))
def WLI (s : Nat) (f1 : Nat → Int32) (G : Nat → Bool) (k : Nat) (F : Nat → Int32) : Prop :=
  (∀ i, i < 36 ∨ (61 ≤ i ∧ i < 476) ∨ 1276 ≤ i → F i = f1 i) ∧
  (∀ u, u < 5 → u = s ∨ k ≤ u → F (36 + u) = f1 (36 + u) ∧ F (51 + u) = f1 (51 + u) ∧ F (56 + u) = f1 (56 + u) ∧ ∀ j, j < 160 → F (476 + 160 * u + j) = f1 (476 + 160 * u + j)) ∧
  (∀ u, u < k → G u = true → F (51 + u) = f1 (51 + s) ∧ ∀ j, j < 4 * fl f1 (51 + s) → F (476 + 160 * u + j) = f1 (476 + 160 * s + j))
theorem ws_loop (h : Ok d n Mc (Mm.1 (20, 0, 0))) (hD : yD d Mc Mm) (hs : s < 5) (ha : sf_act (al (Mm.1 (20, 0, 0))) s) (ht : q Mm (61 + s) = t) (hcb : cb = q Mm (56 + s)) : ∀ k, k ≤ 5 →
    Ok d n (zz_it (c_w1 s cb) k (Mc, 1)).1 ((zz_it (m_w1 s t) k (Mm, 1)).1.1 (20, 0, 0)) ∧ yD d (zz_it (c_w1 s cb) k (Mc, 1)).1 (zz_it (m_w1 s t) k (Mm, 1)).1 ∧ (zz_it (c_w1 s cb) k (Mc, 1)).2 = (zz_it (m_w1 s t) k (Mm, 1)).2 ∧
    (zz_it (m_w1 s t) k (Mm, 1)).2 = nI (sf_cnt (WG Mm s t) k + 1) ∧ WLI s (Mm.1 (20, 0, 0)) (WG Mm s t) k ((zz_it (m_w1 s t) k (Mm, 1)).1.1 (20, 0, 0))
  | 0, _ => ⟨h, hD, rfl, rfl, fun i _ => rfl, fun u _ _ => ⟨rfl, rfl, rfl, fun j _ => rfl⟩, fun u hu => absurd hu (by omega)⟩
  | k + 1, hk => by
    obtain ⟨a1, a2, a3, a4, a5⟩ := ws_loop h hD hs ha ht hcb k (by omega)
    have k5 : k < 5 := by omega
    rw [zz_it, zz_it]
    generalize zz_it (c_w1 s cb) k (Mc, 1) = Xc at *
    generalize zz_it (m_w1 s t) k (Mm, 1) = Xm at *
    obtain ⟨b1, b2, b3⟩ := a5
    obtain ⟨s1, s2, s3, s4⟩ := b2 s hs (Or.inl rfl)
    obtain ⟨k1, k2, k3, k4⟩ := b2 k k5 (Or.inr (Nat.le_refl _))
    have hXl : q Xm.1 (61 + s) = t := (b1 _ (by omega)).trans ht
    have hXa : sf_act (al (Xm.1.1 (20, 0, 0))) s := by
      unfold sf_act at ha ⊢
      rw [al4 _ hs, al0, al5 _ hs] at ha ⊢
      rw [b1 _ (by omega), b1 _ (by omega), b1 _ (by omega)]
      exact ha
    have h0 : ¬ t = 0 := by
      have := ha.1
      rw [al4 _ hs] at this
      unfold q at ht
      rw [ht] at this
      intro z
      rw [z, n_0] at this
      omega
    have eac : c_ac Xc.1 s k = (m_re Xm.1 s k && decide (¬ t < q Xm.1 (36 + k))) := by
      unfold c_ac
      rw [b_re a1.1.1 hs k5, (a1.1.1.2.1 s hs).2.2.2.2.2.1, (a1.1.1.2.1 k k5).2.2.1]
      have hXl' : Xm.1.1 (20, 0, 0) (61 + s) = t := hXl
      rw [hXl', if_neg h0]
    have ere : m_re Xm.1 s k = m_re Mm s k := m_re_c hs k5 (fun i hi => b1 i (by omega))
    have e36 : q Xm.1 (36 + k) = q Mm (36 + k) := k1
    have hcb2 : cb = q Xm.1 (56 + s) := hcb.trans s3.symm
    have hlm : mn Xm.1 (51 + s) ≤ 40 := (Vn_len a1.1.2 hs).2
    have els : mn Xm.1 (51 + s) = fl (Mm.1 (20, 0, 0)) (51 + s) := fl_c s2
    unfold c_w1 m_w1
    rw [eac]
    by_cases g : WG Mm s t k = true
    · have g2 := g
      simp only [WG, Bool.and_eq_true, decide_eq_true_eq] at g2
      obtain ⟨g3, g4, g5⟩ := g2
      have g5' : ¬ t < q Xm.1 (36 + k) := by rw [e36]; exact g5
      rw [if_pos ⟨g3, by rw [ere, g4, decide_eq_true g5']; rfl⟩, if_pos ⟨g3, by rw [ere]; exact g4, g5'⟩]
      dsimp only
      rw [← hcb2]
      have o1 := sh_main a1 hs k5 g3 hXa hXl g5' hcb2
      refine ⟨o1, yD_c a2 ?_ ?_, by rw [a3], ?_, ?_⟩
      · exact (fr_sh (M := Xc.1) fr_rfl).2 (4, 0, 0) 0 rfl
      · exact (mfr_cl (M := Xm.1) mfr_rfl).2 (6, 0, 0) 3 (by decide)
      · rw [a4, sf_cnt, if_pos g, nI_1]
      · rw [m_cl_f]
        refine ⟨fun i hi => ?_, fun u hu hor => ?_, fun u hu hg => ?_⟩
        · rw [clf_o hlm (by omega) (by omega) (by omega) (by omega)]; exact b1 i hi
        · have hne : ¬ u = k := by omega
          obtain ⟨c1, c2, c3, c4⟩ := b2 u hu (by omega)
          rw [clf_o hlm (by omega) (by omega) (by omega) (by omega), clf_o hlm (by omega) (by omega) (by omega) (by omega), clf_o hlm (by omega) (by omega) (by omega) (by omega)]
          exact ⟨c1, c2, c3, fun j hj => by rw [clf_o hlm (by omega) (by omega) (by omega) (by omega)]; exact c4 j hj⟩
        · by_cases z : u = k
          · subst z
            have l3 := (Vn_len h.1.2 hs).1
            refine ⟨?_, fun j hj => ?_⟩
            · unfold clf
              rw [up_n (by omega), up_n (by omega), up_e, els]; exact l3.symm
            · rw [clf_l hlm k5 (by omega), if_pos (by omega)]
              exact s4 j (by omega)
          · obtain ⟨c1, c2⟩ := b3 u (by omega) hg
            rw [clf_o hlm (by omega) (by omega) (by omega) (by omega)]
            have := (Vn_len h.1.2 hs).2
            exact ⟨c1, fun j hj => by rw [clf_o hlm (by omega) (by omega) (by omega) (by omega)]; exact c2 j hj⟩
    · have g6 : ¬ (¬ k = s ∧ m_re Xm.1 s k = true ∧ ¬ t < q Xm.1 (36 + k)) := fun z => g (by
        simp only [WG, Bool.and_eq_true, decide_eq_true_eq]
        rw [ere, e36] at z
        exact z)
      rw [if_neg (fun z => g6 ⟨z.1, by have := z.2; simp only [Bool.and_eq_true, decide_eq_true_eq] at this; exact this⟩), if_neg g6]
      refine ⟨a1, a2, a3, by rw [a4, sf_cnt, if_neg g], b1, fun u hu hor => b2 u hu (by omega), fun u hu hg => ?_⟩
      by_cases z : u = k
      · subst z; exact absurd hg g
      · exact b3 u (by omega) hg
theorem cnt_or {G : Nat → Bool} (hG : G s = false) : ∀ k, sf_cnt (fun u => decide (u = s) || G u) k = sf_cnt G k + (if s < k then 1 else 0)
  | 0 => rfl
  | k + 1 => by
    rw [sf_cnt, sf_cnt, cnt_or hG k]
    by_cases z : k = s
    · subst z
      rw [hG]
      simp
    · by_cases y : s < k
      · rw [if_pos y, if_pos (by omega : s < k + 1)]
        simp [z]
        omega
      · rw [if_neg y, if_neg (by omega : ¬ s < k + 1)]
        simp [z]
end WL
def cmf (f : Nat → Int32) (s H L dd : Nat) (i st : Int32) : Nat → Int32 := up (up (up (up (fun j => if 1276 + 4 * H ≤ j ∧ j < 1276 + 4 * H + 4 * (L - H) then up f (56 + s) (nI L) (476 + 160 * s + 4 * H + (j - (1276 + 4 * H))) else up f (56 + s) (nI L) j) 1436 (nI L)) (76 + 40 * s + dd) i) (276 + 40 * s + dd) st) (71 + s) (nI (dd + 1))
section CM
variable {d : Int} {n s H L dd m : Nat} {Mc Mm : zM} {i st : Int32}
theorem m_w3_f (hs : s < 5) (hL : Mm.1 (20, 0, 0) (51 + s) = nI L) (hL2 : L ≤ 40) (hH : mn Mm 1436 = H) (h5 : H < L) : (m_w3 (m_w2 Mm s) s dd i st).1 (20, 0, 0) = cmf (Mm.1 (20, 0, 0)) s H L dd i st := by
  have e1 : mn (qs Mm (56 + s) (q Mm (51 + s))) 1436 = H := by
    rw [← hH]
    show zz_ix ((qs _ _ _).1 (20, 0, 0) 1436) = _
    rw [qs_f, up_n (by omega)]; rfl
  have e2 : mn (qs Mm (56 + s) (q Mm (51 + s))) (56 + s) = L := by
    show zz_ix ((qs _ _ _).1 (20, 0, 0) (56 + s)) = _
    rw [qs_f, up_e]
    unfold q
    rw [hL, zz_ixn (by omega)]
  unfold m_w3 m_w2 m_rm cmf
  rw [qs_f, qs_f, qs_f, qs_f, e1, e2, show max H L = L by omega]
  congr 4
  funext j
  rw [qgc, qs_f]
  unfold q
  rw [hL]
theorem cmf_o {f : Nat → Int32} {j : Nat} (h1 : ¬ j = 56 + s) (h2 : ¬ j = 71 + s) (h3 : ¬ j = 76 + 40 * s + dd) (h4 : ¬ j = 276 + 40 * s + dd) (h5 : ¬ j = 1436) (h6 : ¬ (1276 + 4 * H ≤ j ∧ j < 1276 + 4 * L)) (hH : H < L) : cmf f s H L dd i st j = f j := by
  unfold cmf
  rw [up_n h2, up_n h4, up_n h3, up_n h5, if_neg (by omega), up_n h1]
theorem cmf_h {f : Nat → Int32} {j : Nat} (hs : s < 5) (hd : dd < 40) (hL : L ≤ 40) (h1 : 4 * H ≤ j) (h2 : j < 4 * L) : cmf f s H L dd i st (1276 + j) = f (476 + 160 * s + j) := by
  unfold cmf
  rw [up_n (by omega), up_n (by omega), up_n (by omega), up_n (by omega), if_pos (by omega), up_n (by omega)]
  exact congrArg f (by omega)
theorem cmf_p {f : Nat → Int32} (hs : s < 5) (hd : dd < 40) : cmf f s H L dd i st (56 + s) = nI L ∧ cmf f s H L dd i st (71 + s) = nI (dd + 1) ∧ cmf f s H L dd i st (76 + 40 * s + dd) = i ∧ cmf f s H L dd i st (276 + 40 * s + dd) = st ∧ cmf f s H L dd i st 1436 = nI L := by
  unfold cmf
  refine ⟨?_, up_e _ _ _, ?_, ?_, ?_⟩
  · rw [up_n (by omega), up_n (by omega), up_n (by omega), up_n (by omega), if_neg (by omega), up_e]
  · rw [up_n (by omega), up_n (by omega), up_e]
  · rw [up_n (by omega), up_e]
  · rw [up_n (by omega), up_n (by omega), up_n (by omega), up_e]
def cax (M : zM) (s : Nat) : zM := zz_set (zz_set (zz_cpy (zz_set M (0, 0, s) 1 (M.1 (1, 0, s) 1)) (7, 0, s) (7, 0, 5) 0 0 (4 * rn M 0 s)) (1, 0, 5) 1 (nI (rn M 0 s))) (0, 0, 5) 1 (M.1 (1, 0, s) 1)
theorem c_ca_x (hlt : Mc.1 (0, 0, 5) 1 < Mc.1 (1, 0, s) 1) (hd : rn Mc 0 (6 + s) = dd) (hd2 : dd < 40) (hs : s < 5) : c_ca Mc s = aps (cax Mc s) (6 + s) dd (nI s) (Mc.1 (1, 0, s) 1 - 1) (ro_get Mc 0 s (Mc.1 (1, 0, s) 1 - 1) 3) (-1000) := by
  have e : c_ca0 Mc s = cax Mc s := by
    unfold c_ca0 cax
    rw [if_pos hlt]
    unfold lo_copy ro_copy
    congr 1
    rw [zz_gs, if_pos ⟨rfl, rfl⟩]
  unfold c_ca
  rw [e, hd, add_aps]
  unfold zz_rl
  rw [if_neg (by omega), if_neg (by omega)]
  omega
theorem cax_o {r : zR} {k : Nat} (h1 : ¬ r = (0, 0, s)) (h2 : ¬ r = (7, 0, 5)) (h3 : ¬ r = (1, 0, 5)) (h4 : ¬ r = (0, 0, 5)) : (cax Mc s).1 r k = Mc.1 r k := by
  unfold cax
  rw [zz_gs, if_neg (fun z => h4 z.1), zz_gs, if_neg (fun z => h3 z.1), zz_gc, if_neg h2, zz_gs, if_neg (fun z => h1 z.1)]
theorem cax_p (hs : s < 5) : (cax Mc s).1 (0, 0, s) 1 = Mc.1 (1, 0, s) 1 ∧ (cax Mc s).1 (0, 0, 5) 1 = Mc.1 (1, 0, s) 1 ∧ (cax Mc s).1 (1, 0, 5) 1 = nI (rn Mc 0 s) ∧ ∀ k, k < 4 * rn Mc 0 s → (cax Mc s).1 (7, 0, 5) k = Mc.1 (7, 0, s) k := by
  unfold cax
  refine ⟨?_, ?_, ?_, fun k hk => ?_⟩
  · rw [zz_gs, if_neg (by simp; omega), zz_gs, if_neg (by simp), zz_gc, if_neg (by simp), zz_gs, if_pos ⟨rfl, rfl⟩]
  · rw [zz_gs, if_pos ⟨rfl, rfl⟩]
  · rw [zz_gs, if_neg (by simp), zz_gs, if_pos ⟨rfl, rfl⟩]
  · rw [zz_gs, if_neg (by simp), zz_gs, if_neg (by simp), zz_gc, if_pos rfl]
    show (if 0 ≤ k ∧ k < 0 + 4 * rn Mc 0 s then (zz_set Mc (0, 0, s) 1 (Mc.1 (1, 0, s) 1)).1 (7, 0, s) (0 + (k - 0)) else _) = _
    rw [if_pos (by omega), zz_gs, if_neg (by simp)]
    exact congrArg _ (by omega)
theorem cm_main (h : Ok d n Mc (Mm.1 (20, 0, 0))) (hs : s < 5) (ha : sf_act (al (Mm.1 (20, 0, 0))) s) (hlt : sf_lt (al (Mm.1 (20, 0, 0))) (an (Mm.1 (20, 0, 0))) s = al (Mm.1 (20, 0, 0)) 4 s) (h5 : an (Mm.1 (20, 0, 0)) 0 5 < an (Mm.1 (20, 0, 0)) 0 s)
    (mj : sf_maj (fun v => an (Mm.1 (20, 0, 0)) 0 v = an (Mm.1 (20, 0, 0)) 0 s ∧ ∀ j, j < 4 * an (Mm.1 (20, 0, 0)) 0 s → al (Mm.1 (20, 0, 0)) (10 + v) j = al (Mm.1 (20, 0, 0)) (10 + s) j))
    (lm : fl (Mm.1 (20, 0, 0)) (51 + s) = m + 1) (hst : st = Mm.1 (20, 0, 0) (476 + 160 * s + 4 * m + 3)) (hdd : mn Mm (71 + s) = dd) :
    Mc.1 (1, 0, s) 1 - 1 = nI m ∧ Ok d n (c_ca Mc s) ((m_w3 (m_w2 Mm s) s dd (nI m) st).1 (20, 0, 0)) := by
  obtain ⟨⟨hR, hV⟩, hr, hS⟩ := h
  obtain ⟨l1, l2⟩ := Vn_len hV hs
  obtain ⟨k1, k2⟩ := Vn_hist hV
  obtain ⟨q1, q2⟩ := Vn_due hV hs
  have hdd' : fl (Mm.1 (20, 0, 0)) (71 + s) = dd := hdd
  obtain ⟨H, hH⟩ : ∃ H, fl (Mm.1 (20, 0, 0)) 1436 = H := ⟨_, rfl⟩
  have N5 : an (Mm.1 (20, 0, 0)) 0 5 = H := hH
  have N0 : an (Mm.1 (20, 0, 0)) 0 s = m + 1 := (an0 _ hs).trans lm
  have N2 : an (Mm.1 (20, 0, 0)) 2 s = dd := (an2 _ hs).trans hdd'
  obtain ⟨_, _, _, _, LD, LC, _, _, DN, _, _⟩ := id hS
  have p5 := LC s hs (LD s hs ha)
  have dn := DN s hs
  have du := sf_due hs hS
  rw [N5, N0] at h5
  rw [N5, N0] at dn
  rw [N2] at du
  have hd40 : dd < 40 := by omega
  have eL : Mm.1 (20, 0, 0) (51 + s) = nI (m + 1) := by rw [l1, lm]
  have c1 : Mc.1 (1, 0, s) 1 = nI (m + 1) := by rw [(hR.2.2.2.1 s hs).1, eL]
  have c5 : Mc.1 (0, 0, 5) 1 = nI H := by rw [hR.2.2.2.2.1.2.1, k1, hH]
  have er : rn Mc 0 s = m + 1 := by unfold rn; rw [c1]; exact zz_ixn (by omega)
  have e6 : rn Mc 0 (6 + s) = dd := by unfold rn; rw [(hR.2.2.2.2.2.1 s hs).1]; exact hdd'
  have em : Mc.1 (1, 0, s) 1 - 1 = nI m := by
    rw [c1, show (1 : Int32) = nI 1 from rfl, ni_subn (by omega), Nat.add_sub_cancel]
  have eg : ro_get Mc 0 s (nI m) 3 = st := by
    rw [ro_get_in (k := m) (n := m + 1) c1 (by rw [zz_rl5 (by omega)]; omega) rfl (by omega), (hR.2.2.2.1 s hs).2.2 _ (by omega), hst]
    exact congrArg _ (by omega)
  refine ⟨em, ?_⟩
  rw [c_ca_x (by rw [c5, c1, ni_ltn (by omega) (by omega)]; exact h5) e6 hd40 hs, em, eg, m_w3_f hs eL (by omega) hH h5]
  obtain ⟨x0, x5, x1, x7⟩ := cax_p (Mc := Mc) hs
  obtain ⟨y1, y2, y3, y4, y5⟩ := cmf_p (f := Mm.1 (20, 0, 0)) (H := H) (L := m + 1) (i := nI m) (st := st) hs hd40
  have fo : ∀ j, ¬ j = 56 + s → ¬ j = 71 + s → ¬ j = 76 + 40 * s + dd → ¬ j = 276 + 40 * s + dd → ¬ j = 1436 → ¬ (1276 + 4 * H ≤ j ∧ j < 1276 + 4 * (m + 1)) → cmf (Mm.1 (20, 0, 0)) s H (m + 1) dd (nI m) st j = Mm.1 (20, 0, 0) j := fun j b1 b2 b3 b4 b5 b6 => cmf_o b1 b2 b3 b4 b5 b6 h5
  have fh : ∀ j, j < 4 * (m + 1) → cmf (Mm.1 (20, 0, 0)) s H (m + 1) dd (nI m) st (1276 + j) = Mm.1 (20, 0, 0) (476 + 160 * s + j) := fun j hj => by
    by_cases z : 4 * H ≤ j
    · exact cmf_h hs hd40 (by omega) z hj
    · rw [fo _ (by omega) (by omega) (by omega) (by omega) (by omega) (by omega)]
      have e := p5.2 j (by rw [N5]; omega)
      rw [alL _ (by omega) (by omega), alL _ (by omega) (by omega)] at e
      exact Int32.toInt_inj.mp e
  have co : ∀ (r : zR) (k : Nat), ¬ r = (0, 0, s) → ¬ r = (7, 0, 5) → ¬ r = (1, 0, 5) → ¬ r = (0, 0, 5) → ¬ r = (7, 0, 6 + s) → ¬ r = (1, 0, 6 + s) → (aps (cax Mc s) (6 + s) dd (nI s) (nI m) st (-1000)).1 r k = Mc.1 r k := fun r k b1 b2 b3 b4 b5 b6 => by
    rw [aps_o b5 b6, cax_o b1 b2 b3 b4]
  obtain ⟨a1, a2, a3, a4, a5, a6, a7, a8, a9⟩ := hR
  refine ⟨⟨⟨?_, ?_, ?_, ?_, ?_, ?_, ?_, ?_, ?_⟩, ?_⟩, fun u hu => ?_, ?_⟩
  · exact yT_c a1 (fun i => co _ _ (by simp) (by simp) (by simp) (by simp) (by simp) (by simp)) (fo _ (by omega) (by omega) (by omega) (by omega) (by omega) (by omega)) (fo _ (by omega) (by omega) (by omega) (by omega) (by omega) (by omega)) (fo _ (by omega) (by omega) (by omega) (by omega) (by omega) (by omega))
  · exact yS_c a2 (fun u hu i => co _ _ (by simp) (by simp) (by simp) (by simp) (by simp) (by simp)) (fun i hi => fo _ (by omega) (by omega) (by omega) (by omega) (by omega) (by omega))
  · exact yK_c a3 (fun i => co _ _ (by simp) (by simp) (by simp) (by simp) (by simp) (by simp)) (fun i _ _ => fo _ (by omega) (by omega) (by omega) (by omega) (by omega) (by omega))
  · intro u hu
    obtain ⟨b1, b2, b3⟩ := a4 u hu
    have lu := (Vn_len hV hu).2
    rw [co _ _ (by simp) (by simp) (by simp; omega) (by simp) (by simp) (by simp; omega), fo (51 + u) (by omega) (by omega) (by omega) (by omega) (by omega) (by omega), fl_c (fo (51 + u) (by omega) (by omega) (by omega) (by omega) (by omega) (by omega))]
    refine ⟨b1, ?_, fun i hi => ?_⟩
    · by_cases z : u = s
      · subst z
        rw [aps_o (by simp) (by simp), x0, y1, c1]
      · rw [co _ _ (by simp; omega) (by simp) (by simp) (by simp; omega) (by simp) (by simp), fo (56 + u) (by omega) (by omega) (by omega) (by omega) (by omega) (by omega)]
        exact b2
    · rw [co _ _ (by simp) (by simp; omega) (by simp) (by simp) (by simp; omega) (by simp), fo _ (by omega) (by omega) (by omega) (by omega) (by omega) (by omega)]
      exact b3 i hi
  · refine ⟨?_, ?_, fun i hi => ?_⟩
    · rw [aps_o (by simp) (by simp; omega), x1, y5, er]
    · rw [aps_o (by simp) (by simp), x5, y5, c1]
    · rw [fl_n y5 (by omega)] at hi
      rw [aps_o (by simp; omega) (by simp), x7 i (by rw [er]; exact hi), fh i hi]
      exact (a4 s hs).2.2 i (by omega)
  · intro u hu
    obtain ⟨b1, b2⟩ := a6 u hu
    have du := (Vn_due hV hu).2
    by_cases z : u = s
    · subst z
      rw [aps_1, y2, fl_n y2 (by omega)]
      refine ⟨rfl, fun k hk => ?_⟩
      rw [aps_7, aps_7]
      by_cases y : k = dd
      · subst y
        rw [if_neg (by omega), if_neg (by omega), if_pos rfl, if_neg (by omega), if_pos rfl, y3, y4]
        exact ⟨rfl, rfl⟩
      · rw [if_neg (by omega), if_neg (by omega), if_neg (by omega), if_neg (by omega), if_neg (by omega), if_neg (by omega), if_neg (by omega), if_neg (by omega), cax_o (by simp) (by simp; omega) (by simp) (by simp), cax_o (by simp) (by simp; omega) (by simp) (by simp), fo _ (by omega) (by omega) (by omega) (by omega) (by omega) (by omega), fo _ (by omega) (by omega) (by omega) (by omega) (by omega) (by omega)]
        exact b2 k (by omega)
    · rw [co _ _ (by simp) (by simp) (by simp; omega) (by simp) (by simp) (by simp; omega), fo (71 + u) (by omega) (by omega) (by omega) (by omega) (by omega) (by omega), fl_c (fo (71 + u) (by omega) (by omega) (by omega) (by omega) (by omega) (by omega))]
      refine ⟨b1, fun k hk => ?_⟩
      rw [co _ _ (by simp) (by simp; omega) (by simp) (by simp) (by simp; omega) (by simp), co _ _ (by simp) (by simp; omega) (by simp) (by simp) (by simp; omega) (by simp), fo _ (by omega) (by omega) (by omega) (by omega) (by omega) (by omega), fo _ (by omega) (by omega) (by omega) (by omega) (by omega) (by omega)]
      exact b2 k hk
  · exact yG_c a7 (Vn_kept hV).2 (co _ _ (by simp) (by simp) (by simp) (by simp) (by simp) (by simp; omega)) (fun i => co _ _ (by simp) (by simp) (by simp) (by simp) (by simp; omega) (by simp)) (fun i _ _ _ => fo _ (by omega) (by omega) (by omega) (by omega) (by omega) (by omega))
  · exact yC_c a8 (fun i => co _ _ (by simp) (by simp) (by simp) (by simp) (by simp) (by simp)) (fun i => co _ _ (by simp) (by simp) (by simp) (by simp) (by simp) (by simp)) (fun i _ _ => fo _ (by omega) (by omega) (by omega) (by omega) (by omega) (by omega))
  · exact yM_c a9 (Vn_sent hV).2 (co _ _ (by simp) (by simp) (by simp) (by simp) (by simp) (by simp; omega)) (fun i => co _ _ (by simp) (by simp) (by simp) (by simp) (by simp; omega) (by simp)) (fun i _ _ => fo _ (by omega) (by omega) (by omega) (by omega) (by omega) (by omega))
  · refine Vn_g hV (fun j hj => ?_) ?_ (fun u hu => ?_) (fun i _ _ => fo _ (by omega) (by omega) (by omega) (by omega) (by omega) (by omega))
    · by_cases z1 : j = 56 + s
      · right; subst z1; exact ⟨m + 1, by rw [show mwb (56 + s) = 40 by unfold mwb; rw [if_neg (by omega), if_neg (by omega)]]; omega, y1⟩
      · by_cases z2 : j = 71 + s
        · right; subst z2; exact ⟨dd + 1, by rw [show mwb (71 + s) = 40 by unfold mwb; rw [if_neg (by omega), if_neg (by omega)]]; omega, y2⟩
        · by_cases z3 : j = 1436
          · right; subst z3; exact ⟨m + 1, by rw [show mwb 1436 = 40 from rfl]; omega, y5⟩
          · left; unfold mwi at hj; exact fo _ z1 z2 (by omega) (by omega) z3 (by omega)
    · rw [fo _ (by omega) (by omega) (by omega) (by omega) (by omega) (by omega)]; exact hV.2.1
    · have b := hV.2.2.1 u hu
      unfold Vs
      rw [fo _ (by omega) (by omega) (by omega) (by omega) (by omega) (by omega), fo _ (by omega) (by omega) (by omega) (by omega) (by omega) (by omega), fo _ (by omega) (by omega) (by omega) (by omega) (by omega) (by omega), fo _ (by omega) (by omega) (by omega) (by omega) (by omega) (by omega), fo _ (by omega) (by omega) (by omega) (by omega) (by omega) (by omega)]
      exact b
  · rw [co _ _ (by simp) (by simp) (by simp) (by simp) (by simp) (by simp), fo _ (by omega) (by omega) (by omega) (by omega) (by omega) (by omega), fo _ (by omega) (by omega) (by omega) (by omega) (by omega) (by omega)]
    exact hr u hu
  · refine sf_commit hs hS ha hlt (by rw [N5, N0]; exact h5) mj (fun j hj => ?_) (fun k hk1 hk2 j => ?_) (al_lo (fun j hj => fo _ (by omega) (by omega) (by omega) (by omega) (by omega) (by omega))) (fun u hu k hk => ?_) ⟨?_, ?_⟩ ?_ (fun u hu => ?_) ?_ (fun u hu hn => ?_) ?_ (fun u hu hn => ?_)
    · rw [alH _ hj, N5, N0]
      by_cases z : 4 * H ≤ j ∧ j < 4 * (m + 1)
      · rw [if_pos z, fh j z.2, alL _ (by omega) hj]
      · rw [if_neg z, alH _ hj, fo _ (by omega) (by omega) (by omega) (by omega) (by omega) (by omega)]
    · have e : k = 10 + (k - 10) := by omega
      rw [e]
      exact alE (by omega) (fun hj => fo _ (by omega) (by omega) (by omega) (by omega) (by omega) (by omega))
    · have du := (Vn_due hV hu).2
      rw [an2 _ hu] at hk
      rw [alI _ hu (by omega), alI _ hu (by omega), alJ _ hu (by omega), alJ _ hu (by omega)]
      have ne : ¬ (u = s ∧ k = dd) := fun z => by
        rw [z.1] at hk
        omega
      rw [fo _ (by omega) (by omega) (by omega) (by omega) (by omega) (by omega), fo _ (by omega) (by omega) (by omega) (by omega) (by omega) (by omega)]
      exact ⟨rfl, rfl⟩
    · rw [N2, N0, alI _ hs hd40, y3, ni_n (by omega)]; omega
    · rw [N2, N0, alJ _ hs hd40, y4, alL _ (by omega) (by omega), hst]
      exact congrArg (fun i => (Mm.1 (20, 0, 0) i).toInt) (by omega)
    · rw [an5, N0]; exact fl_n y5 (by omega)
    · rw [an0 _ hu, an0 _ hu]; exact fl_c (fo _ (by omega) (by omega) (by omega) (by omega) (by omega) (by omega))
    · rw [an1 _ hs, N0]; exact fl_n y1 (by omega)
    · rw [an1 _ hu, an1 _ hu]; exact fl_c (fo _ (by omega) (by omega) (by omega) (by omega) (by omega) (by omega))
    · rw [N2, an2 _ hs]; exact fl_n y2 (by omega)
    · rw [an2 _ hu, an2 _ hu]; exact fl_c (fo _ (by omega) (by omega) (by omega) (by omega) (by omega) (by omega))
end CM
