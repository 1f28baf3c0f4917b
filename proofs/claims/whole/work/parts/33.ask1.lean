theorem n_0 : (0 : Int32).toInt = 0 := rfl
theorem n_1 : (1 : Int32).toInt = 1 := rfl
theorem n_2 : (2 : Int32).toInt = 2 := rfl
theorem n_3 : (3 : Int32).toInt = 3 := rfl
theorem n_4 : (4 : Int32).toInt = 4 := rfl
section QA
variable {d : Int} {n : Nat} {Mc Mm : zM}
theorem q_clock {a w : Int32} (hR : yRel 0 Mc (Mm.1 (20, 0, 0))) (hD : yD d Mc Mm) : L_clock Mc a w = m_clock Mm a w := by
  unfold L_clock m_clock
  by_cases ha : nsv a
  · rw [if_pos ha, if_pos (Or.inl ha)]
  · have hs := nsv_ix ha
    rw [if_neg ha, b_rd hR hs, b_ea hR hD hs, b_la hR hD hs]
    by_cases h0 : w = 0
    · subst h0; rw [if_pos rfl, if_neg (by rintro (x | x | x); exact ha x; exact absurd x (by decide); exact absurd x (by decide)), if_pos rfl]
    · by_cases h1 : w = 1
      · subst h1; rw [if_neg h0, if_pos rfl, if_neg (by rintro (x | x | x); exact ha x; exact absurd x (by decide); exact absurd x (by decide)), if_neg h0, if_pos rfl]
      · by_cases h2 : w = 2
        · subst h2; rw [if_neg h0, if_neg h1, if_pos rfl, if_neg (by rintro (x | x | x); exact ha x; exact absurd x (by decide); exact absurd x (by decide)), if_neg h0, if_neg h1]
        · rw [if_neg h0, if_neg h1, if_neg h2, if_pos]
          right
          rw [ni_eq, n_0] at h0
          rw [ni_eq, n_1] at h1
          rw [ni_eq, n_2] at h2
          rw [ni_lt, ni_lt, n_0, n_2]
          omega
theorem q_reason {a : Int32} (hr : yR 0 Mc (Mm.1 (20, 0, 0))) : L_reason Mc a = m_reason Mm a := by
  unfold L_reason m_reason
  by_cases ha : nsv a
  · rw [if_pos ha, if_pos ha]
  · rw [if_neg ha, if_neg ha, hr _ (nsv_ix ha)]
theorem q_holds {a : Int32} (hR : yRel 0 Mc (Mm.1 (20, 0, 0))) (hV : Vn d n (Mm.1 (20, 0, 0))) (hD : yD d Mc Mm) : L_holds Mc a = m_holds Mm a := by
  unfold L_holds m_holds
  by_cases ha : nsv a
  · rw [if_pos ha, if_pos ha]
  · rw [if_neg ha, if_neg ha, b_ho hR hV hD (nsv_ix ha)]
theorem q_known {a w : Int32} (hR : yRel 0 Mc (Mm.1 (20, 0, 0))) : L_known Mc a w = m_known Mm a w := by
  unfold L_known m_known
  by_cases ha : nsv a
  · rw [if_pos ha, if_pos ha]
  · obtain ⟨_, _, r4, r5, r6, r7, r8⟩ := hR.2.1 _ (nsv_ix ha)
    rw [if_neg ha, if_neg ha, r4, r5, r6, r7, r8]
theorem b_pt {s i c : Nat} (hR : yRel 0 Mc (Mm.1 (20, 0, 0))) (hs : s < 5) (hi : i < fl (Mm.1 (20, 0, 0)) (51 + s)) (hc : c < 4) : Mc.1 (7, 0, s) (4 * i + c) = m_pt Mm s i c := by
  rw [(hR.2.2.2.1 s hs).2.2 _ (by omega)]
  exact congrArg (Mm.1 (20, 0, 0)) (by omega)
theorem b_lv {s : Nat} {key time : Int32} (hR : yRel 0 Mc (Mm.1 (20, 0, 0))) (hs : s < 5) : ∀ k, k ≤ fl (Mm.1 (20, 0, 0)) (51 + s) → lo_lv Mc 0 s key time k = m_lv Mm s key time k
  | 0, _ => rfl
  | k + 1, hk => by
    rw [lo_lv, m_lv, b_pt hR hs (by omega) (by omega), b_pt hR hs (by omega) (by omega), b_pt hR hs (by omega) (by omega), b_lv hR hs k (by omega)]
theorem b_lvt {s : Nat} {key : Int32} (hV : Vn d n (Mm.1 (20, 0, 0))) (hS : Sf (al (Mm.1 (20, 0, 0))) (an (Mm.1 (20, 0, 0)))) (hs : s < 5) : ∀ k, k ≤ fl (Mm.1 (20, 0, 0)) (51 + s) → m_lv Mm s key 2147483647 k = m_lv Mm s key 2000000000 k
  | 0, _ => rfl
  | k + 1, hk => by
    obtain ⟨_, _, _, _, _, _, _, _, _, _, ST⟩ := id hS
    have h1 := (ST s (by omega)).1 k (by rw [an0 _ hs]; omega)
    have h2 := (Vn_len hV hs).2
    rw [alL _ (by omega) (by omega)] at h1
    have e : m_pt Mm s k 3 = Mm.1 (20, 0, 0) (476 + 160 * s + (4 * k + 3)) := congrArg (Mm.1 (20, 0, 0)) (by omega)
    rw [← e] at h1
    have n1 : (2147483647 : Int32).toInt = 2147483647 := by decide
    have n2 : (2000000000 : Int32).toInt = 2000000000 := by decide
    have a1 : ¬ (2147483647 : Int32) < m_pt Mm s k 3 := by rw [ni_lt, n1]; omega
    have a2 : ¬ (2000000000 : Int32) < m_pt Mm s k 3 := by rw [ni_lt, n2]; omega
    rw [m_lv, m_lv, b_lvt hV hS hs k (by omega)]
    simp only [a1, a2]
theorem done_le {s : Nat} (hS : Sf (al (Mm.1 (20, 0, 0))) (an (Mm.1 (20, 0, 0)))) (hs : s < 5) : fl (Mm.1 (20, 0, 0)) (56 + s) ≤ fl (Mm.1 (20, 0, 0)) (51 + s) ∧ fl (Mm.1 (20, 0, 0)) (56 + s) ≤ fl (Mm.1 (20, 0, 0)) 1436 := by
  obtain ⟨_, _, _, _, _, _, _, _, DN, _⟩ := id hS
  obtain ⟨a, b, _⟩ := DN s hs
  rw [an1 _ hs] at a b
  rw [an0 _ hs] at b
  exact ⟨b, a⟩
theorem b_cm {s : Nat} (hR : yRel 0 Mc (Mm.1 (20, 0, 0))) (hs : s < 5) : cmn Mc 0 s = fl (Mm.1 (20, 0, 0)) (56 + s) := by
  unfold cmn fl; rw [(hR.2.2.2.1 s hs).2.1]
theorem nz_i {f : Nat → Int32} {i : Nat} (h : f i = nI (fl f i)) (hb : fl f i < 100000) : f i = 0 ↔ fl f i = 0 := by
  constructor
  · intro e; unfold fl; rw [e]; rfl
  · intro e; rw [h, e]; rfl
theorem b_ll {s c : Nat} (hR : yRel 0 Mc (Mm.1 (20, 0, 0))) (hV : Vn d n (Mm.1 (20, 0, 0))) (hS : Sf (al (Mm.1 (20, 0, 0))) (an (Mm.1 (20, 0, 0)))) (hs : s < 5) (hc : c < 4) : lo_last Mc 0 s (cmn Mc 0 s) c = if q Mm (56 + s) = 0 then -1000 else m_pt Mm s (mn Mm (56 + s) - 1) c := by
  have h1 := Vn_done hV hs
  have h2 := done_le hS hs
  unfold lo_last
  rw [b_cm hR hs]
  have e := nz_i h1.1 (by omega)
  by_cases z : fl (Mm.1 (20, 0, 0)) (56 + s) = 0
  · rw [if_pos z, if_pos (e.mpr z)]
  · rw [if_neg z, if_neg (fun x => z (e.mp x)), b_pt hR hs (by omega) hc]; rfl
theorem q_read {a k : Int32} (hR : yRel 0 Mc (Mm.1 (20, 0, 0))) (hV : Vn d n (Mm.1 (20, 0, 0))) (hD : yD d Mc Mm) (hS : Sf (al (Mm.1 (20, 0, 0))) (an (Mm.1 (20, 0, 0)))) : L_read Mc a k = m_read Mm a k := by
  unfold L_read m_read
  by_cases ha : nsv a ∨ k < 0 ∨ 7 < k
  · rw [if_pos ha, if_pos ha]
  · have hs := nsv_ix (fun x => ha (Or.inl x))
    rw [if_neg ha, if_neg ha, b_ho hR hV hD hs, b_ll hR hV hS hs (by omega), (hR.2.2.2.1 _ hs).2.1, (hR.2.1 _ hs).2.2.2.2.2.1, b_cm hR hs, b_lv hR hs _ (done_le hS hs).1, b_lvt hV hS hs _ (done_le hS hs).1]
    by_cases h1 : m_ha Mm (zz_ix a) = false
    · rw [if_pos (Or.inl h1), if_pos (Or.inl h1)]
    · by_cases h2 : q Mm (56 + zz_ix a) = 0
      · rw [if_pos (Or.inr (Or.inl h2)), if_pos (Or.inr (Or.inl h2))]
      · have hl : ¬ q Mm (61 + zz_ix a) = 0 := by
          intro e
          have := (ho_act hV hD hs (by simpa using h1)).1.1
          rw [al4 _ hs] at this
          unfold q at e
          rw [e, n_0] at this
          omega
        unfold q at h2 hl ⊢
        rw [if_neg h2, if_neg hl]
        rfl
theorem q_readAt {a k t : Int32} (hR : yRel 0 Mc (Mm.1 (20, 0, 0))) (hV : Vn d n (Mm.1 (20, 0, 0))) (hS : Sf (al (Mm.1 (20, 0, 0))) (an (Mm.1 (20, 0, 0)))) : L_readAt Mc a k t = m_readAt Mm a k t := by
  unfold L_readAt m_readAt
  by_cases ha : nsv a ∨ (k < 0 ∨ 7 < k) ∨ t < 0
  · rw [if_pos ha, if_pos ha]
  · have hs := nsv_ix (fun x => ha (Or.inl x))
    rw [if_neg ha, if_neg ha, b_ll hR hV hS hs (by omega), (hR.2.2.2.1 _ hs).2.1, (hR.2.1 _ hs).2.1, b_cm hR hs, b_lv hR hs _ (done_le hS hs).1]
    have e : (m_ru Mm (zz_ix a) = false) = (¬ Mm.1 (20, 0, 0) (6 + zz_ix a) = 0) := by simp [m_ru]
    simp only [e]
    by_cases h2 : q Mm (56 + zz_ix a) = 0
    · rw [if_pos (Or.inr (Or.inl h2)), if_pos (Or.inr (Or.inl h2))]
    · unfold q at h2 ⊢
      rw [if_neg h2]
      rfl
theorem q_log {a w : Int32} (hR : yRel 0 Mc (Mm.1 (20, 0, 0))) (hV : Vn d n (Mm.1 (20, 0, 0))) (hS : Sf (al (Mm.1 (20, 0, 0))) (an (Mm.1 (20, 0, 0)))) : L_log Mc a w = m_log Mm a w := by
  unfold L_log m_log
  by_cases ha : nsv a
  · rw [if_pos ha, if_pos ha]
  · have hs := nsv_ix ha
    rw [if_neg ha, if_neg ha, b_ll hR hV hS hs (by omega), (hR.2.2.2.1 _ hs).2.1, (hR.2.2.2.1 _ hs).1, b_lt hR hV hs, (hR.2.2.2.2.2.1 _ hs).1]
theorem b_rn {s : Nat} (hR : yRel 0 Mc (Mm.1 (20, 0, 0))) (hs : s < 5) : rn Mc 0 s = fl (Mm.1 (20, 0, 0)) (51 + s) := by
  unfold rn fl; rw [(hR.2.2.2.1 s hs).1]
theorem q_entry {a i w : Int32} (hR : yRel 0 Mc (Mm.1 (20, 0, 0))) (hV : Vn d n (Mm.1 (20, 0, 0))) : L_entry Mc a i w = m_entry Mm a i w := by
  unfold L_entry m_entry
  by_cases ha : nsv a
  · rw [if_pos (Or.inl ha), if_pos (Or.inl ha)]
  · have hs := nsv_ix ha
    have r1 := (hR.2.2.2.1 _ hs).1
    have hl := Vn_len hV hs
    rw [r1]
    by_cases hb : nsv a ∨ (i < 0 ∨ Mm.1 (20, 0, 0) (51 + zz_ix a) - 1 < i) ∨ (w < 0 ∨ 3 < w)
    · rw [if_pos hb, if_pos hb]
    · rw [if_neg hb, if_neg hb]
      obtain ⟨x, hx, ex⟩ := ni_wm hl.1 (by omega) (fun z => hb (Or.inr (Or.inl (Or.inl z)))) (fun z => hb (Or.inr (Or.inl (Or.inr z))))
      obtain ⟨y, hy, ey⟩ := ni_c4 (fun z => hb (Or.inr (Or.inr (Or.inl z)))) (fun z => hb (Or.inr (Or.inr (Or.inr z))))
      rw [ro_get_in (k := x) (n := fl (Mm.1 (20, 0, 0)) (51 + zz_ix a)) (by rw [r1]; exact hl.1) (by rw [zz_rl5 (by omega)]; omega) ex hx, ni_ix ex (by omega), ni_ix ey (by omega)]
      exact b_pt hR hs hx hy
theorem ff_c {p r : Nat → Bool} : ∀ (f i : Nat), (∀ j, i ≤ j → j < i + f → p j = r j) → zz_ff p f i = zz_ff r f i
  | 0, _, _ => rfl
  | f + 1, i, h => by
    rw [zz_ff, zz_ff, h i (by omega) (by omega), ff_c f (i + 1) (fun j h1 h2 => h j (by omega) (by omega))]
theorem q_agreement {a b : Int32} (hR : yRel 0 Mc (Mm.1 (20, 0, 0))) : L_agreement Mc a b = m_agreement Mm a b := by
  unfold L_agreement m_agreement
  by_cases ha : nsv a ∨ nsv b
  · rw [if_pos ha, if_pos ha]
  · have hs := nsv_ix (fun x => ha (Or.inl x))
    have hv := nsv_ix (fun x => ha (Or.inr x))
    rw [if_neg ha, if_neg ha]
    unfold ro_shared
    rw [b_rn hR hs, b_rn hR hv]
    congr 2
    refine ff_c _ _ (fun j _ hj => ?_)
    have hj : j < 4 * min (fl (Mm.1 (20, 0, 0)) (51 + zz_ix a)) (fl (Mm.1 (20, 0, 0)) (51 + zz_ix b)) := by omega
    rw [(hR.2.2.2.1 _ hs).2.2 j (by omega), (hR.2.2.2.1 _ hv).2.2 j (by omega)]
theorem b_vo {key idx : Int32} (hR : yRel 0 Mc (Mm.1 (20, 0, 0))) : ∀ (f i : Nat) (fd : Int32), i + f ≤ fl (Mm.1 (20, 0, 0)) 1436 → lo_vo Mc 0 5 key idx f i fd = m_hv Mm key f i (idx - fd)
  | 0, _, _, _ => rfl
  | f + 1, i, fd, h => by
    have e1 : Mc.1 (7, 0, 5) (4 * i + 1) = q Mm (1276 + 4 * i + 1) := by rw [hR.2.2.2.2.1.2.2 _ (by omega)]; exact congrArg (Mm.1 (20, 0, 0)) (by omega)
    have e2 : Mc.1 (7, 0, 5) (4 * i + 2) = q Mm (1276 + 4 * i + 2) := by rw [hR.2.2.2.2.1.2.2 _ (by omega)]; exact congrArg (Mm.1 (20, 0, 0)) (by omega)
    have e3 : (idx - fd = 0) ↔ (fd = idx) := by
      rw [Int32.sub_eq_iff_eq_add, Int32.zero_add]; exact eq_comm
    rw [lo_vo, m_hv, e1, e2, b_vo hR f (i + 1) _ (by omega), b_vo hR f (i + 1) _ (by omega), Int32.sub_sub]
    simp only [e3]
theorem q_history {k i : Int32} (hR : yRel 0 Mc (Mm.1 (20, 0, 0))) : L_history Mc k i = m_history Mm k i := by
  unfold L_history m_history
  have e : cmn Mc 0 5 = fl (Mm.1 (20, 0, 0)) 1436 := by unfold cmn fl; rw [hR.2.2.2.2.1.2.1]
  rw [e, b_vo hR _ 0 0 (by omega), Int32.sub_zero]
  rfl
theorem q_ack {i w : Int32} (hR : yRel 0 Mc (Mm.1 (20, 0, 0))) (hV : Vn d n (Mm.1 (20, 0, 0))) : L_ack Mc i w = m_ack Mm i w := by
  unfold L_ack m_ack
  by_cases hb : i < 0 ∨ (w < 0 ∨ 3 < w)
  · rw [if_pos hb, if_pos hb]
  · rw [if_neg hb, if_neg hb]
    have hl := Vn_kept hV
    obtain ⟨r1, r2⟩ := hR.2.2.2.2.2.2.1
    obtain ⟨y, hy, ey⟩ := ni_c4 (fun z => hb (Or.inr (Or.inl z))) (fun z => hb (Or.inr (Or.inr z)))
    unfold ro_get
    rw [r1]
    by_cases hi : i < Mm.1 (20, 0, 0) 1437
    · obtain ⟨x, hx, ex⟩ := ni_ofr hl.1 (by omega) (fun z => hb (Or.inl z)) hi
      rw [if_neg (by rintro (z | z); exact hb (Or.inl z); exact z hi), if_pos hi, ni_ix ex (by omega), ni_ix ey (by omega), r2 _ (by omega)]
      exact congrArg (Mm.1 (20, 0, 0)) (by omega)
    · rw [if_pos (Or.inr hi), if_neg hi]
theorem q_cell {c w : Int32} (hR : yRel 0 Mc (Mm.1 (20, 0, 0))) : L_cell Mc c w = m_cell Mm c w := by
  unfold L_cell m_cell
  by_cases hc : c < 0 ∨ 3 < c
  · rw [if_pos hc, if_pos (Or.inl hc)]
  · obtain ⟨x, hx, ex⟩ := ni_c4 (fun z => hc (Or.inl z)) (fun z => hc (Or.inr z))
    obtain ⟨r1, r2⟩ := hR.2.2.2.2.2.2.2.1 x hx
    rw [if_neg hc, ni_ix ex (by omega), r1, r2]
    by_cases h0 : w = 0
    · subst h0
      rw [if_pos rfl, if_neg (by rintro (z | z | z); exact hc z; exact absurd z (by decide); exact absurd z (by decide))]; rfl
    · by_cases h1 : w = 1
      · subst h1
        rw [if_neg h0, if_pos rfl, if_neg (by rintro (z | z | z); exact hc z; exact absurd z (by decide); exact absurd z (by decide))]; rfl
      · rw [if_neg h0, if_neg h1, if_pos]
        right
        rw [ni_eq, n_0] at h0
        rw [ni_eq, n_1] at h1
        rw [ni_lt, ni_lt, n_0, n_1]
        omega
theorem q_safeFor {a : Int32} (hR : yRel 0 Mc (Mm.1 (20, 0, 0))) (hV : Vn d n (Mm.1 (20, 0, 0))) (hD : yD d Mc Mm) : L_safeFor Mc a = m_safeFor Mm a := by
  unfold L_safeFor m_safeFor
  by_cases ha : nsv a
  · rw [if_pos ha, if_pos ha]
  · have hs := nsv_ix ha
    rw [if_neg ha, if_neg ha, b_ho hR hV hD hs, b_la hR hD hs, (hR.2.1 _ hs).2.2.2.2.2.2]
    by_cases h1 : m_ha Mm (zz_ix a) = true
    · have hl : ¬ q Mm (61 + zz_ix a) = 0 := by
        intro e
        have := (ho_act hV hD hs h1).1.1
        rw [al4 _ hs] at this
        unfold q at e
        rw [e, n_0] at this
        omega
      unfold q at hl ⊢
      rw [if_pos h1, if_pos h1, if_neg hl]
    · rw [if_neg h1, if_neg h1]
theorem b_tg {cr : Int32} {s v : Nat} (hR : yRel 0 Mc (Mm.1 (20, 0, 0))) (hV : Vn d n (Mm.1 (20, 0, 0))) (hD : yD d Mc Mm) (hs : s < 5) (hv : v < 5) : c_tg Mc cr s v = m_ga Mm cr s v := by
  unfold c_tg m_ga
  rw [b_re hR hs hv, b_too hR hv, b_rec hR hV hs hv, (b_tb hR hV hD hs hv).1, (hR.2.1 s hs).2.2.1]
  simp only [decide_eq_true_eq]
theorem b_ga {cr ti : Int32} {s : Nat} (hR : yRel 0 Mc (Mm.1 (20, 0, 0))) (hV : Vn d n (Mm.1 (20, 0, 0))) (hD : yD d Mc Mm) (hs : s < 5) : ∀ k, k ≤ 5 → c_ga Mc cr s ti k = m_mc Mm cr s ti k
  | 0, _ => rfl
  | k + 1, hk => by
    rw [c_ga, m_mc, b_tg hR hV hD hs (by omega), b_ga hR hV hD hs k (by omega)]
    split
    · rfl
    · exact (Int32.add_zero _).symm
theorem b_tl {cr : Int32} {s : Nat} (hR : yRel 0 Mc (Mm.1 (20, 0, 0))) (hV : Vn d n (Mm.1 (20, 0, 0))) (hD : yD d Mc Mm) (hs : s < 5) : ∀ k, k ≤ 5 → c_tl Mc cr s k = m_wt Mm cr s k
  | 0, _ => rfl
  | k + 1, hk => by
    rw [c_tl, m_wt, b_tg hR hV hD hs (by omega), b_tl hR hV hD hs k (by omega), b_ga hR hV hD hs 5 (by omega)]
    unfold m_mm
    by_cases e : m_ga Mm cr s k = -1000
    · rw [if_neg (fun z => z.1 e), if_neg]
      rw [if_pos e]
      intro z
      exact z.1 (by decide)
    · rw [if_neg e]
      by_cases e2 : ¬ m_mc Mm cr s (m_ga Mm cr s k) 5 < 3 ∧ (m_wt Mm cr s k = -1000 ∨ m_ga Mm cr s k < m_wt Mm cr s k)
      · rw [if_pos e2, if_pos ⟨e, e2.2, e2.1⟩]
      · rw [if_neg e2, if_neg (fun z => e2 ⟨z.2.2, z.2.1⟩)]
theorem q_waitFor {a : Int32} (hR : yRel 0 Mc (Mm.1 (20, 0, 0))) (hV : Vn d n (Mm.1 (20, 0, 0))) (hD : yD d Mc Mm) : L_waitFor Mc a = m_waitFor Mm a := by
  unfold L_waitFor m_waitFor
  by_cases ha : nsv a
  · rw [if_pos ha, if_pos ha]
  · rw [if_neg ha, if_neg ha, b_tl hR hV hD (nsv_ix ha) 5 (by omega)]
theorem b_hs (hR : yRel 0 Mc (Mm.1 (20, 0, 0))) (hV : Vn d n (Mm.1 (20, 0, 0))) (hD : yD d Mc Mm) : ∀ k, k ≤ 5 → c_hs Mc k = m_hs Mm k
  | 0, _ => rfl
  | k + 1, hk => by rw [c_hs, m_hs, b_ho hR hV hD (by omega), b_hs hR hV hD k (by omega)]
theorem b_rs (hR : yRel 0 Mc (Mm.1 (20, 0, 0))) : ∀ k, k ≤ 5 → c_rs Mc k = m_rs Mm k
  | 0, _ => rfl
  | k + 1, hk => by
    rw [c_rs, m_rs, (hR.2.1 k (by omega)).2.1, b_rs hR k (by omega)]
    unfold m_ru
    simp only [decide_eq_true_eq]
theorem b_li (hR : yRel 0 Mc (Mm.1 (20, 0, 0))) (a : Nat) (ha : a < 5) : ∀ c x, c ≤ 4 - a → c_li Mc a c x = m_li Mm a c x
  | 0, _, _ => rfl
  | c + 1, x, hc => by
    rw [c_li, m_li, b_li hR a ha c x (by omega), hR.2.2.1 _ (by omega)]
    rw [show 11 + (5 * a + (a + 1 + c)) = 11 + 5 * a + (a + 1 + c) by omega]
theorem b_lo (hR : yRel 0 Mc (Mm.1 (20, 0, 0))) : ∀ k, k ≤ 5 → c_lo Mc k = m_lu Mm k
  | 0, _ => rfl
  | k + 1, hk => by rw [c_lo, m_lu, b_lo hR k (by omega), b_li hR k (by omega) _ _ (Nat.le_refl _)]
theorem q_count {w : Int32} (hR : yRel 0 Mc (Mm.1 (20, 0, 0))) (hV : Vn d n (Mm.1 (20, 0, 0))) (hD : yD d Mc Mm) (h7 : Mc.1 (2, 0, 0) 4 = Mm.1 (6, 0, 0) 5) (h8 : Mc.1 (2, 0, 0) 6 = Mm.1 (6, 0, 0) 6) : L_count Mc w = m_count Mm w := by
  unfold L_count m_count
  rw [hR.1.1, hD.1, hR.2.2.2.2.1.2.1, hR.2.2.2.2.2.2.1.1, hR.1.2.1, hR.2.2.2.2.2.2.2.2.1, hR.1.2.2, h7, h8, b_hs hR hV hD 5 (by omega), b_lo hR 5 (by omega)]
end QA
