theorem alE {f f' : Nat → Int32} {s j : Nat} (hs : s < 6) (h : j < 160 → f' (476 + 160 * s + j) = f (476 + 160 * s + j)) : al f' (10 + s) j = al f (10 + s) j := by
  by_cases z : j < 160
  · rw [alL _ hs z, alL _ hs z, h z]
  · unfold al
    rw [if_neg (by omega), if_pos (by omega), if_neg z, if_neg (by omega), if_pos (by omega), if_neg z]
def apf (f : Nat → Int32) (s m : Nat) (t k v st : Int32) : Nat → Int32 := up (up (up (up (up f (476 + 160 * s + 4 * m) t) (476 + 160 * s + 4 * m + 1) k) (476 + 160 * s + 4 * m + 2) v) (476 + 160 * s + 4 * m + 3) st) (51 + s) (nI (m + 1))
theorem m_w0_f (M : zM) (s : Nat) (k v : Int32) : (m_w0 M s k v).1 (20, 0, 0) = apf (M.1 (20, 0, 0)) s (mn M (51 + s)) (q M (61 + s)) k v (m_st M s) := by
  unfold m_w0 apf
  rw [qs_f, qs_f, qs_f, qs_f, qs_f, show 476 + 4 * (40 * s + mn M (51 + s)) = 476 + 160 * s + 4 * mn M (51 + s) by omega]
section AP
variable {d : Int} {n s : Nat} {Mc Mm : zM} {t k v st : Int32}
theorem apf_o {f : Nat → Int32} {m i : Nat} (h1 : ¬ i = 51 + s) (h2 : ¬ (476 + 160 * s + 4 * m ≤ i ∧ i < 476 + 160 * s + 4 * m + 4)) : apf f s m t k v st i = f i := by
  unfold apf
  rw [up_n h1, up_n (by omega), up_n (by omega), up_n (by omega), up_n (by omega)]
theorem apf_0 {f : Nat → Int32} {m : Nat} (hs : s < 5) : apf f s m t k v st (476 + 160 * s + 4 * m) = t ∧ apf f s m t k v st (476 + 160 * s + 4 * m + 1) = k ∧ apf f s m t k v st (476 + 160 * s + 4 * m + 2) = v ∧ apf f s m t k v st (476 + 160 * s + 4 * m + 3) = st ∧ apf f s m t k v st (51 + s) = nI (m + 1) := by
  unfold apf
  refine ⟨?_, ?_, ?_, ?_, up_e _ _ _⟩
  · rw [up_n (by omega), up_n (by omega), up_n (by omega), up_n (by omega), up_e]
  · rw [up_n (by omega), up_n (by omega), up_n (by omega), up_e]
  · rw [up_n (by omega), up_n (by omega), up_e]
  · rw [up_n (by omega), up_e]
def aps (M : zM) (j m : Nat) (a b c e : Int32) : zM := zz_set (zz_set (zz_set (zz_set (zz_set M (7, 0, j) (4 * m) a) (7, 0, j) (4 * m + 1) b) (7, 0, j) (4 * m + 2) c) (7, 0, j) (4 * m + 3) e) (1, 0, j) 1 (nI (m + 1))
theorem add_aps {M : zM} {j m : Nat} {a b c e : Int32} (h : (m + 1) * 4 ≤ zz_rl j) : ro_add M 0 j m a b c e = aps M j m a b c e := by
  unfold ro_add aps
  rw [if_neg (by omega)]
theorem aps_o {M : zM} {j m i : Nat} {a b c e : Int32} {r : zR} (h7 : ¬ r = (7, 0, j)) (h1 : ¬ r = (1, 0, j)) : (aps M j m a b c e).1 r i = M.1 r i := by
  unfold aps
  rw [zz_gs, if_neg (fun z => h1 z.1), zz_gs, if_neg (fun z => h7 z.1), zz_gs, if_neg (fun z => h7 z.1), zz_gs, if_neg (fun z => h7 z.1), zz_gs, if_neg (fun z => h7 z.1)]
theorem aps_1 {M : zM} {j m : Nat} {a b c e : Int32} : (aps M j m a b c e).1 (1, 0, j) 1 = nI (m + 1) := by
  unfold aps
  rw [zz_gs, if_pos ⟨rfl, rfl⟩]
theorem aps_7 {M : zM} {j m i : Nat} {a b c e : Int32} : (aps M j m a b c e).1 (7, 0, j) i = if i = 4 * m + 3 then e else if i = 4 * m + 2 then c else if i = 4 * m + 1 then b else if i = 4 * m then a else M.1 (7, 0, j) i := by
  unfold aps
  rw [zz_gs, if_neg (by simp), zz_gs, zz_gs, zz_gs, zz_gs]
  simp only [true_and]
theorem stamp_eq (h : RV d n Mc (Mm.1 (20, 0, 0))) (hS : Sf (al (Mm.1 (20, 0, 0))) (an (Mm.1 (20, 0, 0)))) (hD : yD d Mc Mm) (hs : s < 5) : lo_stamp Mc 0 s (rn Mc 0 s) (c_la Mc s) = m_st Mm s ∧ (0 ≤ (m_st Mm s).toInt ∧ (m_st Mm s).toInt ≤ 100100 + (mn Mm (51 + s) : Int)) ∧ (0 < mn Mm (51 + s) → (m_pt Mm s (mn Mm (51 + s) - 1) 3).toInt < (m_st Mm s).toInt) := by
  have hla := v_la h.2 hD hs
  have ho := (h.2.2.2.1 s hs).1
  have h0 := h.2.2.1
  have hd2 := hD.2.2
  obtain ⟨l1, l2⟩ := Vn_len h.2 hs
  obtain ⟨_, _, _, _, _, _, _, _, _, _, ST⟩ := id hS
  unfold lo_stamp m_st
  rw [b_last h.1 h.2 hs (by omega), b_la h.1 hD hs]
  have z := nz_i l1 (by omega)
  by_cases hz : mn Mm (51 + s) = 0
  · rw [if_pos (z.mpr hz), if_neg (by rw [show m_la Mm s - 1 + 1 = m_la Mm s from Int32.sub_add_cancel _ _, ni_lt]; omega), if_neg (by omega)]
    exact ⟨rfl, by omega, fun x => by omega⟩
  · have s1 := (ST s (by omega)).1 (mn Mm (51 + s) - 1) (by rw [an0 _ hs]; show mn Mm (51 + s) - 1 < mn Mm (51 + s); omega)
    have hl2 : mn Mm (51 + s) ≤ 40 := l2
    rw [alL _ (by omega) (by omega)] at s1
    have ep : m_pt Mm s (mn Mm (51 + s) - 1) 3 = Mm.1 (20, 0, 0) (476 + 160 * s + (4 * (mn Mm (51 + s) - 1) + 3)) := congrArg (Mm.1 (20, 0, 0)) (by omega)
    rw [← ep] at s1
    rw [if_neg (fun x => hz (z.mp x))]
    have e1 : (m_pt Mm s (mn Mm (51 + s) - 1) 3 + 1).toInt = (m_pt Mm s (mn Mm (51 + s) - 1) 3).toInt + 1 := ni_add (by rw [n_1]; omega) (by rw [n_1]; omega)
    by_cases c : m_la Mm s < m_pt Mm s (mn Mm (51 + s) - 1) 3 + 1
    · have c2 := c
      rw [ni_lt, e1] at c2
      rw [if_pos c, if_pos ⟨by omega, by rw [ni_lt]; omega⟩, e1]
      exact ⟨rfl, by omega, fun _ => by omega⟩
    · have c2 := c
      rw [ni_lt, e1] at c2
      rw [if_neg c, if_neg (fun x => x.2 (by rw [ni_lt]; omega))]
      exact ⟨rfl, by omega, fun _ => by omega⟩
theorem ap_rv {m : Nat} (h : RV d n Mc (Mm.1 (20, 0, 0))) (hs : s < 5) (hm : fl (Mm.1 (20, 0, 0)) (51 + s) = m) (hn : m < 40) : RV d n (aps Mc s m t k v st) (apf (Mm.1 (20, 0, 0)) s m t k v st) := by
  obtain ⟨⟨a1, a2, a3, a4, a5, a6, a7, a8, a9⟩, hV⟩ := h
  obtain ⟨p0, p1, p2, p3, p4⟩ := apf_0 (f := Mm.1 (20, 0, 0)) (m := m) (t := t) (k := k) (v := v) (st := st) hs
  have fo : ∀ i, ¬ i = 51 + s → ¬ (476 + 160 * s + 4 * m ≤ i ∧ i < 476 + 160 * s + 4 * m + 4) → apf (Mm.1 (20, 0, 0)) s m t k v st i = Mm.1 (20, 0, 0) i := fun i b1 b2 => apf_o b1 b2
  have flv : fl (apf (Mm.1 (20, 0, 0)) s m t k v st) (51 + s) = m + 1 := fl_n p4 (by omega)
  refine ⟨⟨?_, ?_, ?_, ?_, ?_, ?_, ?_, ?_, ?_⟩, ?_⟩
  · exact yT_c a1 (fun i => aps_o (by simp) (by simp)) (fo _ (by omega) (by omega)) (fo _ (by omega) (by omega)) (fo _ (by omega) (by omega))
  · exact yS_c a2 (fun u hu i => aps_o (by simp) (by simp)) (fun i hi => fo _ (by omega) (by omega))
  · exact yK_c a3 (fun i => aps_o (by simp) (by simp)) (fun i _ _ => fo _ (by omega) (by omega))
  · intro u hu
    obtain ⟨b1, b2, b3⟩ := a4 u hu
    by_cases z : u = s
    · subst z
      rw [aps_1, p4, flv, aps_o (by simp) (by simp), fo (56 + u) (by omega) (by omega)]
      refine ⟨rfl, b2, fun i hi => ?_⟩
      rw [aps_7]
      by_cases c3 : i = 4 * m + 3
      · rw [if_pos c3, c3, show 476 + 160 * u + (4 * m + 3) = 476 + 160 * u + 4 * m + 3 by omega, p3]
      · rw [if_neg c3]
        by_cases c2 : i = 4 * m + 2
        · rw [if_pos c2, c2, show 476 + 160 * u + (4 * m + 2) = 476 + 160 * u + 4 * m + 2 by omega, p2]
        · rw [if_neg c2]
          by_cases c1 : i = 4 * m + 1
          · rw [if_pos c1, c1, show 476 + 160 * u + (4 * m + 1) = 476 + 160 * u + 4 * m + 1 by omega, p1]
          · rw [if_neg c1]
            by_cases c0 : i = 4 * m
            · rw [if_pos c0, c0, p0]
            · rw [if_neg c0, fo _ (by omega) (by omega)]
              exact b3 i (by omega)
    · have lu := (Vn_len hV hu).2
      rw [aps_o (by simp) (by simp [z]), aps_o (by simp) (by simp), fo _ (by omega) (by omega), fo _ (by omega) (by omega), fl_c (fo (51 + u) (by omega) (by omega))]
      refine ⟨b1, b2, fun i hi => ?_⟩
      rw [aps_o (by simp [z]) (by simp), fo _ (by omega) (by omega)]
      exact b3 i hi
  · exact yH_c a5 (Vn_hist hV).2 (aps_o (by simp) (by simp; omega)) (aps_o (by simp) (by simp)) (fun i => aps_o (by simp; omega) (by simp)) (fun i _ _ => fo _ (by omega) (by omega))
  · exact yO_c a6 (fun u hu => (Vn_due hV hu).2) (fun u hu => aps_o (by simp) (by simp; omega)) (fun u hu i => aps_o (by simp; omega) (by simp)) (fun i _ _ => fo _ (by omega) (by omega))
  · exact yG_c a7 (Vn_kept hV).2 (aps_o (by simp) (by simp; omega)) (fun i => aps_o (by simp; omega) (by simp)) (fun i _ _ _ => fo _ (by omega) (by omega))
  · exact yC_c a8 (fun i => aps_o (by simp) (by simp)) (fun i => aps_o (by simp) (by simp)) (fun i _ _ => fo _ (by omega) (by omega))
  · exact yM_c a9 (Vn_sent hV).2 (aps_o (by simp) (by simp; omega)) (fun i => aps_o (by simp; omega) (by simp)) (fun i _ _ => fo _ (by omega) (by omega))
  · refine Vn_g hV (fun i hi => ?_) ?_ (fun u hu => ?_) (fun i _ _ => fo _ (by omega) (by omega))
    · by_cases z1 : i = 51 + s
      · right; subst z1; exact ⟨m + 1, by rw [show mwb (51 + s) = 40 by unfold mwb; rw [if_neg (by omega), if_neg (by omega)]]; omega, p4⟩
      · left; exact fo _ z1 (by unfold mwi at hi; omega)
    · rw [fo _ (by omega) (by omega)]; exact hV.2.1
    · have b := hV.2.2.1 u hu
      unfold Vs
      rw [fo _ (by omega) (by omega), fo _ (by omega) (by omega), fo _ (by omega) (by omega), fo _ (by omega) (by omega), fo _ (by omega) (by omega)]
      exact b
theorem ap_main {key val : Int32} (h : Ok d n Mc (Mm.1 (20, 0, 0))) (hD : yD d Mc Mm) (hs : s < 5) (ha : sf_act (al (Mm.1 (20, 0, 0))) s) (hn : mn Mm (51 + s) < 40) :
    Ok d n (lo_app Mc 0 s (rn Mc 0 s) (Mc.1 (3, 0, s) 7) key val (c_la Mc s)) ((m_w0 Mm s key val).1 (20, 0, 0)) ∧ sf_act (al ((m_w0 Mm s key val).1 (20, 0, 0))) s ∧ sf_lt (al ((m_w0 Mm s key val).1 (20, 0, 0))) (an ((m_w0 Mm s key val).1 (20, 0, 0))) s = al ((m_w0 Mm s key val).1 (20, 0, 0)) 4 s ∧ an ((m_w0 Mm s key val).1 (20, 0, 0)) 0 5 < an ((m_w0 Mm s key val).1 (20, 0, 0)) 0 s := by
  obtain ⟨h, hr, hS⟩ := h
  obtain ⟨e1, e2, e3⟩ := stamp_eq h hS hD hs
  have er : rn Mc 0 s = mn Mm (51 + s) := by unfold rn mn q; rw [(h.1.2.2.2.1 s hs).1]
  have l0 : ¬ Mm.1 (20, 0, 0) (61 + s) = 0 := by
    intro z
    have := ha.1
    rw [al4 _ hs, z, n_0] at this
    omega
  have e7 : Mc.1 (3, 0, s) 7 = q Mm (61 + s) := by
    rw [(h.1.2.1 s hs).2.2.2.2.2.1, if_neg l0]
  unfold lo_app
  rw [add_aps (by rw [zz_rl5 (by omega), er]; omega), e1, e7, er, m_w0_f]
  obtain ⟨p0, p1, p2, p3, p4⟩ := apf_0 (f := Mm.1 (20, 0, 0)) (m := mn Mm (51 + s)) (t := q Mm (61 + s)) (k := key) (v := val) (st := m_st Mm s) hs
  have fo : ∀ i, ¬ i = 51 + s → ¬ (476 + 160 * s + 4 * mn Mm (51 + s) ≤ i ∧ i < 476 + 160 * s + 4 * mn Mm (51 + s) + 4) → apf (Mm.1 (20, 0, 0)) s (mn Mm (51 + s)) (q Mm (61 + s)) key val (m_st Mm s) i = Mm.1 (20, 0, 0) i := fun i b1 b2 => apf_o b1 b2
  have N0 : an (Mm.1 (20, 0, 0)) 0 s = mn Mm (51 + s) := an0 _ hs
  have R := ap_rv (t := q Mm (61 + s)) (k := key) (v := val) (st := m_st Mm s) h hs (m := mn Mm (51 + s)) rfl hn
  obtain ⟨x1, x2⟩ := sf_append (A' := al (apf (Mm.1 (20, 0, 0)) s (mn Mm (51 + s)) (q Mm (61 + s)) key val (m_st Mm s))) (N' := an (apf (Mm.1 (20, 0, 0)) s (mn Mm (51 + s)) (q Mm (61 + s)) key val (m_st Mm s))) (st := (m_st Mm s).toInt) hs hS ha (by rw [N0]; exact hn)
    (fun j hj => alE (by omega) (fun hj2 => fo _ (by omega) (by rw [N0] at hj; omega)))
    (by rw [N0, alL _ (by omega) (by omega), al4 _ hs, p0])
    (by rw [N0, alL _ (by omega) (by omega), show 476 + 160 * s + (4 * mn Mm (51 + s) + 3) = 476 + 160 * s + 4 * mn Mm (51 + s) + 3 by omega, p3])
    (al_hk (v := s) (by omega) (fun i a b c => fo i (by omega) (by omega)))
    (by rw [N0]; exact e2)
    (fun hp => by
      rw [N0] at hp ⊢
      rw [alL _ (by omega) (by omega), ← show m_pt Mm s (mn Mm (51 + s) - 1) 3 = Mm.1 (20, 0, 0) (476 + 160 * s + (4 * (mn Mm (51 + s) - 1) + 3)) from congrArg (Mm.1 (20, 0, 0)) (by omega)]
      exact e3 hp)
    (al_lo (fun i hi => fo i (by omega) (by omega)))
    (by rw [N0, an0 _ hs]; exact fl_n p4 (by omega))
    (fun u hu hn2 => by
      by_cases z : u = 5
      · subst z; rw [an5, an5]; exact fl_c (fo _ (by omega) (by omega))
      · rw [an0 _ (by omega), an0 _ (by omega)]; exact fl_c (fo _ (by omega) (by omega)))
    (fun u hu => by rw [an1 _ hu, an1 _ hu]; exact fl_c (fo _ (by omega) (by omega)))
    (fun u hu => by rw [an2 _ hu, an2 _ hu]; exact fl_c (fo _ (by omega) (by omega)))
  refine ⟨⟨R, fun u hu => ?_, x1⟩, x2⟩
  rw [aps_o (by simp) (by simp), fo _ (by omega) (by omega), fo _ (by omega) (by omega)]
  exact hr u hu
end AP
