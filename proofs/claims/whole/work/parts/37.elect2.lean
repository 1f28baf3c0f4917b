def Ok (d : Int) (n : Nat) (M : zM) (f : Nat → Int32) : Prop := RV d n M f ∧ yR 0 M f ∧ Sf (al f) (an f)
theorem yD_c {d : Int} {Mc Mm Mc' Mm' : zM} (h : yD d Mc Mm) (h1 : Mc'.1 (4, 0, 0) 0 = Mc.1 (4, 0, 0) 0) (h2 : Mm'.1 (6, 0, 0) 3 = Mm.1 (6, 0, 0) 3) : yD d Mc' Mm' := by
  unfold yD at *
  rw [h1, h2]; exact h
theorem m_at_0 {M : zM} {s v : Nat} {t : Int32} (h : m_at M s v t = 0) : m_re M s v = true ∧ (v = s ∨ q M (36 + v) < t) ∧ m_ip M s v = false ∧ m_ir M s v = true := by
  unfold m_at at h
  split at h
  · exact absurd h (by decide)
  · next h1 =>
    split at h
    · exact absurd h (by decide)
    · next h2 =>
      split at h
      · exact absurd h (by decide)
      · next h3 =>
        split at h
        · next h4 =>
          refine ⟨by simpa using h1, ?_, by simpa using h3, h4⟩
          by_cases z : v = s
          · exact Or.inl z
          · right
            apply Classical.byContradiction
            intro x
            exact h2 ⟨z, x⟩
        · exact absurd h (by decide)
theorem m_ar_0 {M : zM} {s v : Nat} {t : Int32} (h : m_ar M s v t = 0) : m_re M s v = true ∧ ¬ t < q M (36 + v) ∧ m_ip M s v = false ∧ (q M (41 + v) = nI s ∨ m_ir M s v = true) := by
  unfold m_ar at h
  split at h
  · exact absurd h (by decide)
  · next h1 =>
    split at h
    · exact absurd h (by decide)
    · next h2 =>
      split at h
      · exact absurd h (by decide)
      · next h3 =>
        split at h
        · next h4 => exact ⟨by simpa using h1, h2, by simpa using h3, h4⟩
        · exact absurd h (by decide)
section ES
variable {d : Int} {n s v : Nat} {t e : Int32} {Mc Mm : zM}
theorem lt_al (hV : Vn d n (Mm.1 (20, 0, 0))) (hs : s < 5) : sf_lt (al (Mm.1 (20, 0, 0))) (an (Mm.1 (20, 0, 0))) s = (m_lt Mm s).toInt := by
  obtain ⟨v1, v2⟩ := Vn_len hV hs
  unfold sf_lt m_lt
  rw [an0 _ hs]
  have z := nz_i v1 (by omega)
  by_cases h : fl (Mm.1 (20, 0, 0)) (51 + s) = 0
  · rw [if_pos h, if_pos (z.mpr h)]; rfl
  · rw [if_neg h, if_neg (fun x => h (z.mp x)), alL _ (by omega) (by omega)]
    show _ = (Mm.1 (20, 0, 0) (476 + 4 * (40 * s + (fl (Mm.1 (20, 0, 0)) (51 + s) - 1)) + 0)).toInt
    exact congrArg (fun i => (Mm.1 (20, 0, 0) i).toInt) (by omega)
theorem ir_ge (hV : Vn d n (Mm.1 (20, 0, 0))) (hs : s < 5) (hv : v < 5) (h : m_ir Mm s v = true) : sf_ge (al (Mm.1 (20, 0, 0))) (an (Mm.1 (20, 0, 0))) s v := by
  obtain ⟨v1, v2⟩ := Vn_len hV hs
  obtain ⟨u1, u2⟩ := Vn_len hV hv
  unfold sf_ge
  rw [lt_al hV hs, lt_al hV hv, an0 _ hs, an0 _ hv]
  simp only [m_ir, Bool.or_eq_true, Bool.and_eq_true, decide_eq_true_eq] at h
  rcases h with h | ⟨h1, h2⟩
  · left; rw [ni_lt] at h; exact h
  · right
    refine ⟨by rw [h1], ?_⟩
    unfold q at h2
    rw [v1, u1, ni_ltn (by omega) (by omega)] at h2
    omega
theorem ip_no (hV : Vn d n (Mm.1 (20, 0, 0))) (hD : yD d Mc Mm) (hv : v < 5) (hs : s < 5) (h : m_ip Mm s v = false) : al (Mm.1 (20, 0, 0)) 2 v = -1000 ∨ al (Mm.1 (20, 0, 0)) 2 v = (s : Int) ∨ al (Mm.1 (20, 0, 0)) 3 v ≤ al (Mm.1 (20, 0, 0)) 0 0 := by
  have he := v_ea hV hD hv
  have ho := (hV.2.2.1 v hv).1
  rw [al2 _ hv, al3 _ hv, al0]
  by_cases a : q Mm (41 + v) = -1000
  · left; unfold q at a; rw [a]; decide
  · by_cases b : q Mm (41 + v) = nI s
    · right; left; unfold q at b; rw [b, ni_n (by omega)]
    · right; right
      simp only [m_ip, a, b, not_false_eq_true, decide_true, Bool.true_and, decide_eq_false_iff_not, ni_lt] at h
      unfold q at h
      omega
theorem an_c {f f' : Nat → Int32} (h : ∀ i, (51 ≤ i ∧ i < 61) ∨ (71 ≤ i ∧ i < 76) ∨ i = 1436 → f' i = f i) : (∀ s, s < 6 → an f' 0 s = an f 0 s) ∧ (∀ s, s < 5 → an f' 1 s = an f 1 s) ∧ (∀ s, s < 5 → an f' 2 s = an f 2 s) := by
  refine ⟨fun s hs => ?_, fun s hs => ?_, fun s hs => ?_⟩
  · by_cases e : s = 5
    · subst e; rw [an5, an5]; exact fl_c (h _ (by omega))
    · rw [an0 _ (by omega), an0 _ (by omega)]; exact fl_c (h _ (by omega))
  · rw [an1 _ hs, an1 _ hs]; exact fl_c (h _ (by omega))
  · rw [an2 _ hs, an2 _ hs]; exact fl_c (h _ (by omega))
theorem el_sf {F f' G : Nat → Int32} (hV : Vn d n (Mm.1 (20, 0, 0))) (hD : yD d Mc Mm) (hS : Sf (al (Mm.1 (20, 0, 0))) (an (Mm.1 (20, 0, 0)))) (hs : s < 5) (hI : ELI s t e (Mm.1 (20, 0, 0)) G 5 F) (hG : ∀ u, u < 5 → G u = m_at (m_m0 Mm s) s u t) (ht : t.toInt = (Mm.1 (20, 0, 0) (36 + s)).toInt + 1)
    (hf : ∀ i, ¬ i = 61 + s → ¬ i = 66 + s → i < 1729 → f' i = F i) (hl : (3 ≤ sf_cnt (fun u => decide (G u = 0)) 5 ∧ f' (61 + s) = t ∧ f' (66 + s) = e) ∨ f' (61 + s) = 0) : Sf (al f') (an f') := by
  obtain ⟨h1, h2, h3, h4, h5⟩ := hI
  have lo : ∀ i, ¬ i = 61 + s → ¬ i = 66 + s → i < 36 ∨ (51 ≤ i ∧ i < 1729) → f' i = Mm.1 (20, 0, 0) i := fun i a b c => by rw [hf i a b (by omega), h1 i c]
  obtain ⟨c0, c1, c2⟩ := an_c (f := Mm.1 (20, 0, 0)) (f' := f') (fun i hi => lo i (by omega) (by omega) (by omega))
  have m0 : ∀ i, ¬ i = 36 + s → q (m_m0 Mm s) i = q Mm i := fun i hi => by
    show (qs _ _ _).1 (20, 0, 0) i = _
    rw [qs_f, up_n hi]
  have m6 : (m_m0 Mm s).1 (6, 0, 0) 3 = Mm.1 (6, 0, 0) 3 := by
    unfold m_m0; rw [zz_gs, if_neg (by simp)]
  have gr : ∀ u, u < 5 → G u = 0 → (u = s ∨ al (Mm.1 (20, 0, 0)) 1 u < t.toInt) ∧ m_ip Mm s u = false ∧ m_ir Mm s u = true := fun u hu g => by
    rw [hG u hu] at g
    obtain ⟨_, a, b, c⟩ := m_at_0 g
    have lu := (Vn_len hV hu).2
    have ls := (Vn_len hV hs).2
    rw [m_ip_c hu m6 (fun i hi => m0 i (by omega)) (m0 _ (by omega)) (m0 _ (by omega))] at b
    rw [m_ir_c hs hu ls lu (fun i hi => m0 i (by omega))] at c
    refine ⟨?_, b, c⟩
    rcases a with a | a
    · exact Or.inl a
    · by_cases z : u = s
      · exact Or.inl z
      · right
        rw [m0 _ (by omega), ni_lt] at a
        rw [al1 _ hu]; exact a
  refine sf_elect (s := s) (t := t.toInt) (e := e.toInt) (g := fun u => decide (G u = 0)) hs (al_hi (fun i a b => lo i (by omega) (by omega) (by omega))) c0 c1 c2 hS ?_ ?_ (fun u hu hn => ?_) (fun u hu g => ?_) (fun u hu g => ?_) (fun u hu g => ?_) (fun u hu g => ?_) (fun u hu g => ?_) (fun u hu => ?_) ?_
  · rw [al1 _ hs]; exact ht
  · rw [al0, al0, lo 0 (by omega) (by omega) (by omega)]
  · rw [al4 _ hu, al4 _ hu, al5 _ hu, al5 _ hu, lo _ (by omega) (by omega) (by omega), lo _ (by omega) (by omega) (by omega)]
    exact ⟨rfl, rfl⟩
  · exact (gr u hu (by simpa using g)).1
  · exact ip_no hV hD hu hs (gr u hu (by simpa using g)).2.1
  · exact ir_ge hV hs hu (gr u hu (by simpa using g)).2.2
  · obtain ⟨a, b, c⟩ := (h3 u hu).1 (by simpa using g)
    rw [al2 _ hu, al3 _ hu, al1 _ hu, hf _ (by omega) (by omega) (by omega), hf _ (by omega) (by omega) (by omega), hf _ (by omega) (by omega) (by omega), a, b, ni_n (by omega)]
    exact ⟨rfl, rfl, c⟩
  · obtain ⟨a, b⟩ := (h3 u hu).2 (by simpa using g)
    rw [al2 _ hu, al3 _ hu, al2 _ hu, al3 _ hu, hf _ (by omega) (by omega) (by omega), hf _ (by omega) (by omega) (by omega), a, b]
    exact ⟨rfl, rfl⟩
  · rw [al1 _ hu, al1 _ hu, hf _ (by omega) (by omega) (by omega)]
    exact h4 u hu
  · rw [al4 _ hs, al5 _ hs]
    rcases hl with ⟨a, b, c⟩ | b
    · left; rw [b, c]; exact ⟨a, rfl, rfl⟩
    · right; rw [b]; rfl
theorem m_e1_r {Xm : zM × Int32} {u : Nat} (hs : s < 5) (hv : v < 5) (hu : ¬ u = v) : q (m_e1 s t e v Xm).1 (1729 + u) = q Xm.1 (1729 + u) := by
  unfold m_e1
  split
  · show (qs _ _ _).1 (20, 0, 0) _ = _
    rw [qs_f, qs_f, up_n (by omega), up_n (by omega)]
  · split
    · show (qs _ _ _).1 (20, 0, 0) _ = _
      rw [qs_f, qs_f, qs_f, qs_f, up_n (by omega), up_n (by omega), up_n (by omega), up_n (by omega)]
    · show (qs _ _ _).1 (20, 0, 0) _ = _
      rw [qs_f, up_n (by omega)]
theorem el_loop (h : RV d n Mc (Mm.1 (20, 0, 0))) (hD : yD d Mc Mm) (hs : s < 5) (ht : t = q Mm (36 + s) + 1) (hti : t.toInt = (Mm.1 (20, 0, 0) (36 + s)).toInt + 1) (he : -100 ≤ e.toInt ∧ e.toInt ≤ 100200) : ∀ k, k ≤ 5 →
    RV d (n + 1) (zz_it (c_e1 s t e) k (c_m0 Mc s, 0)).1 ((zz_it (m_e1 s t e) k (m_m0 Mm s, 0)).1.1 (20, 0, 0)) ∧ yD d (zz_it (c_e1 s t e) k (c_m0 Mc s, 0)).1 (zz_it (m_e1 s t e) k (m_m0 Mm s, 0)).1 ∧
    (zz_it (c_e1 s t e) k (c_m0 Mc s, 0)).2 = (zz_it (m_e1 s t e) k (m_m0 Mm s, 0)).2 ∧ (zz_it (m_e1 s t e) k (m_m0 Mm s, 0)).2 = nI (sf_cnt (fun u => decide (m_at (m_m0 Mm s) s u t = 0)) k) ∧
    (∀ u, u < k → (zz_it (c_e1 s t e) k (c_m0 Mc s, 0)).1.1 (11, 0, 0) u = q (zz_it (m_e1 s t e) k (m_m0 Mm s, 0)).1 (1729 + u)) ∧
    ELI s t e (Mm.1 (20, 0, 0)) (fun u => m_at (m_m0 Mm s) s u t) k ((zz_it (m_e1 s t e) k (m_m0 Mm s, 0)).1.1 (20, 0, 0))
  | 0, _ => by
    have bs := (h.2.2.2.1 s hs).2.1
    have r4 := (h.1.2.1 s hs).2.2.1
    have ef : (m_m0 Mm s).1 (20, 0, 0) = up (Mm.1 (20, 0, 0)) (36 + s) t := by unfold m_m0; rw [qs_f, ht]
    have ec : c_m0 Mc s = zz_set Mc (3, 0, s) 4 t := by unfold c_m0; rw [r4, ht]
    have h0 : RV d (n + 1) (c_m0 Mc s) ((m_m0 Mm s).1 (20, 0, 0)) := by
      rw [ef, ec]
      exact rv_term ⟨h.1, Vn_up h.2 (by omega)⟩ hs (by omega)
    refine ⟨h0, yD_c hD ?_ ?_, rfl, rfl, fun u hu => absurd hu (by omega), ?_⟩
    · show (c_m0 Mc s).1 (4, 0, 0) 0 = _
      rw [ec, zz_gs, if_neg (by simp)]
    · show (m_m0 Mm s).1 (6, 0, 0) 3 = _
      unfold m_m0
      rw [zz_gs, if_neg (by simp)]
    · show ELI s t e _ _ 0 ((m_m0 Mm s).1 (20, 0, 0))
      rw [ef]
      refine ⟨fun i hi => up_n (by omega), fun u hu _ => ⟨up_n (by omega), up_n (by omega), fun z => up_n (by omega)⟩, fun u hu => absurd hu (by omega), fun u hu => ?_, by rw [up_e]; exact Int.le_refl _⟩
      by_cases z : u = s
      · subst z; rw [up_e]; omega
      · rw [up_n (by omega)]; exact Int.le_refl _
  | k + 1, hk => by
    obtain ⟨a1, a2, a3, a4, a5, a6⟩ := el_loop h hD hs ht hti he k (by omega)
    have bs := (h.2.2.2.1 s hs).2.1
    have m0 : ∀ i, ¬ i = 36 + s → q (m_m0 Mm s) i = q Mm i := fun i hi => by
      show (qs _ _ _).1 (20, 0, 0) i = _
      rw [qs_f, up_n hi]
    have lu : mn (m_m0 Mm s) (51 + k) ≤ 40 := by
      show zz_ix (q (m_m0 Mm s) (51 + k)) ≤ 40
      rw [m0 _ (by omega)]; exact (Vn_len h.2 (by omega)).2
    have ls : mn (m_m0 Mm s) (51 + s) ≤ 40 := by
      show zz_ix (q (m_m0 Mm s) (51 + s)) ≤ 40
      rw [m0 _ (by omega)]; exact (Vn_len h.2 hs).2
    obtain ⟨b1, b2, b3, b4⟩ := e1_rv (t := t) (e := e) a1 a2 hs (show k < 5 by omega) (by omega) he
    have g6 := a6
    obtain ⟨c1, c2, _⟩ := a6
    obtain ⟨c3, c4, c5⟩ := c2 k (by omega) (Nat.le_refl _)
    have hG : m_at (zz_it (m_e1 s t e) k (m_m0 Mm s, 0)).1 s k t = m_at (m_m0 Mm s) s k t := by
      refine m_at_c hs (by omega) ls lu ?_ (fun i hi => ?_) ?_ ?_ (fun z => ?_)
      · exact (mfr_it2 (M := m_m0 Mm s) (fun k X h => mfr_e1 h) k (m_m0 Mm s, 0) mfr_rfl).2 (6, 0, 0) 3 (by decide)
      · rw [m0 i (by omega)]; exact c1 i (by omega)
      · rw [m0 _ (by omega)]; exact c3
      · rw [m0 _ (by omega)]; exact c4
      · rw [m0 _ (by omega)]; exact c5 z
    obtain ⟨d1, d2⟩ := e1_eli (G := fun u => m_at (m_m0 Mm s) s u t) hs (show k < 5 by omega) g6 hG
    refine ⟨b1, yD_c a2 ?_ ?_, b2 a3, ?_, fun u hu => ?_, d1⟩
    · exact (fr_e1 (M := (zz_it (c_e1 s t e) k (c_m0 Mc s, 0)).1) fr_rfl).2 (4, 0, 0) 0 rfl
    · exact (mfr_e1 (M := (zz_it (m_e1 s t e) k (m_m0 Mm s, 0)).1) mfr_rfl).2 (6, 0, 0) 3 (by decide)
    · rw [zz_it, d2, a4, sf_cnt]
      by_cases z : m_at (m_m0 Mm s) s k t = 0
      · rw [if_pos z, if_pos (by simpa using z), nI_1]
      · rw [if_neg z, if_neg (by simpa using z)]; rfl
    · by_cases z : u = k
      · subst z; exact b3
      · rw [zz_it, zz_it, b4 u z, m_e1_r hs (by omega) z]
        exact a5 u (by omega)
theorem sf_cnt_le (p : Nat → Bool) : ∀ k, sf_cnt p k ≤ k
  | 0 => Nat.le_refl _
  | k + 1 => by
    have := sf_cnt_le p k
    rw [sf_cnt]
    split <;> omega
theorem el_main {dur : Int32} (h : RV d n Mc (Mm.1 (20, 0, 0))) (hS : Sf (al (Mm.1 (20, 0, 0))) (an (Mm.1 (20, 0, 0)))) (hD : yD d Mc Mm) (hs : s < 5) (hn : n < 1000000) (hd : 1 ≤ dur.toInt ∧ dur.toInt ≤ 100) :
    (c_el Mc s dur).1 = (m_aq Mm s dur).1 ∧ Ok d (n + 1) (c_el Mc s dur).2 ((m_aq Mm s dur).2.1 (20, 0, 0)) := by
  have bs := (h.2.2.2.1 s hs).2.1
  have r4 := (h.1.2.1 s hs).2.2.1
  have t1 : (1 : Int32).toInt = 1 := rfl
  have hti : (q Mm (36 + s) + 1).toInt = (Mm.1 (20, 0, 0) (36 + s)).toInt + 1 := ni_add (by unfold q; omega) (by unfold q; omega)
  have erd : c_rd (c_m0 Mc s) s = c_rd Mc s := by
    unfold c_rd c_m0
    rw [zz_gs, if_neg (by simp), zz_gs, if_neg (by simp)]
  have mrd : m_rd (m_m0 Mm s) s = m_rd Mm s := by
    unfold m_rd
    show (qs _ _ _).1 (20, 0, 0) 0 + (qs _ _ _).1 (20, 0, 0) (1 + s) = _
    rw [qs_f, up_n (by omega), up_n (by omega)]
  have er := v_rd h.2 hD hs
  have ho := (h.2.2.2.1 s hs).1
  have h0 := h.2.2.1
  have hd2 := hD.2.2
  have hei : (m_rd Mm s + dur).toInt = (m_rd Mm s).toInt + dur.toInt := ni_add (by omega) (by omega)
  obtain ⟨a1, a2, a3, a4, a5, a6⟩ := el_loop (t := q Mm (36 + s) + 1) (e := m_rd Mm s + dur) h hD hs rfl hti (by omega) 5 (Nat.le_refl _)
  have cl := sf_cnt_le (fun u => decide (m_at (m_m0 Mm s) s u (q Mm (36 + s) + 1) = 0)) 5
  have eX : c_eX Mc s dur = zz_it (c_e1 s (q Mm (36 + s) + 1) (m_rd Mm s + dur)) 5 (c_m0 Mc s, 0) := by
    unfold c_eX; rw [erd, r4, b_rd h.1 hs]
  have eY : m_eX Mm s dur = zz_it (m_e1 s (q Mm (36 + s) + 1) (m_rd Mm s + dur)) 5 (m_m0 Mm s, 0) := by
    unfold m_eX; rw [mrd]
  rw [← eX] at a1 a2 a3 a5
  rw [← eY] at a1 a2 a3 a4 a5 a6
  clear eX eY
  unfold c_el m_aq
  rw [erd, mrd, r4, b_rd h.1 hs, a3]
  generalize c_eX Mc s dur = Xc at *
  generalize m_eX Mm s dur = Xm at *
  have l3 : (Xm.2 < 3) = (sf_cnt (fun u => decide (m_at (m_m0 Mm s) s u (q Mm (36 + s) + 1) = 0)) 5 < 3) := by
    rw [a4, show (3 : Int32) = nI 3 from rfl, ni_ltn (by omega) (by omega)]
  by_cases c3 : Xm.2 < 3
  · rw [if_pos c3, if_pos c3]
    dsimp only
    refine ⟨rfl, ?_⟩
    rw [qs_f, qs_f, qs_f]
    refine ⟨rv_end0 (rv_leaseN (rv_f a1 (by omega)) hs) hs (up_e _ _ _), fun u hu => ?_, ?_⟩
    · rw [up_n (by omega), up_n (by omega), up_e, if_pos rfl, up_n (by omega), up_n (by omega), up_n (by omega)]
      show _ = q Xm.1 (1729 + u)
      rw [← a5 u hu]
      simp [se_pl, zz_gs]
    · refine el_sf h.2 hD hS hs a6 (fun u hu => rfl) hti (fun i x y z => by rw [up_n y, up_n x, up_n (by omega)]) (Or.inr ?_)
      rw [up_n (by omega), up_e]
  · rw [if_neg c3, if_neg c3]
    dsimp only
    refine ⟨rfl, ?_⟩
    rw [qs_f, qs_f, qs_f]
    refine ⟨rv_lease (rv_f a1 (by omega)) hs ⟨by show 0 < (q Mm (36 + s) + 1).toInt; omega, by show (q Mm (36 + s) + 1).toInt ≤ ((n + 1 : Nat) : Int); omega⟩, fun u hu => ?_, ?_⟩
    · rw [up_n (by omega), up_n (by omega), up_e, if_pos rfl, up_n (by omega), up_n (by omega), up_n (by omega)]
      show _ = q Xm.1 (1729 + u)
      rw [← a5 u hu]
      simp [se_pl, zz_gs]
    · refine el_sf h.2 hD hS hs a6 (fun u hu => rfl) hti (fun i x y z => by rw [up_n y, up_n x, up_n (by omega)]) (Or.inl ⟨?_, ?_, ?_⟩)
      · rw [l3] at c3; omega
      · rw [up_n (by omega), up_e]
      · rw [up_e]
end ES
