theorem up_comm {f : Nat → Int32} {i j : Nat} {x y : Int32} (h : ¬ i = j) : up (up f i x) j y = up (up f j y) i x := by
  funext k
  unfold up
  by_cases a : k = j
  · rw [if_pos a, if_neg (by omega), if_pos a]
  · rw [if_neg a]
    by_cases b : k = i
    · rw [if_pos b, if_pos b]
    · rw [if_neg b, if_neg b, if_neg a]
section RN
variable {d : Int} {n s v : Nat} {t e : Int32} {Mc Mm : zM}
theorem r1_rv {Xc Xm : zM × Int32} (h : RV d n Xc.1 (Xm.1.1 (20, 0, 0))) (hD : yD d Xc.1 Xm.1) (hs : s < 5) (hv : v < 5) (hl : q Xm.1 (61 + s) = t) (h0 : ¬ t = 0) (he : -100 ≤ e.toInt ∧ e.toInt ≤ 100200) :
    RV d n (c_p1 s e v Xc).1 ((m_r1 s t e v Xm).1.1 (20, 0, 0)) ∧ (Xc.2 = Xm.2 → (c_p1 s e v Xc).2 = (m_r1 s t e v Xm).2) ∧ (c_p1 s e v Xc).1.1 (11, 0, 0) v = q (m_r1 s t e v Xm).1 (1729 + v) ∧ ∀ u, ¬ u = v → (c_p1 s e v Xc).1.1 (11, 0, 0) u = Xc.1.1 (11, 0, 0) u := by
  have hl0 : ¬ q Xm.1 (61 + s) = 0 := by rw [hl]; exact h0
  have ea := b_pa h.1 h.2 hD hs hv hl0
  obtain ⟨_, _, _, _, _, rs7, _⟩ := h.1.2.1 s hs
  obtain ⟨_, _, _, rv5, rv6, _⟩ := h.1.2.1 v hv
  have bl := (h.2.2.2.1 s hs).2.2.2.2
  have bp := (h.2.2.2.1 v hv).2.2.2.1
  have hl1 : Xm.1.1 (20, 0, 0) (61 + s) = t := hl
  rw [hl] at ea
  rw [hl1] at rs7 bl
  rw [if_neg h0] at rs7
  unfold c_p1 m_r1
  rw [ea]
  by_cases e0 : m_ar Xm.1 s v t = 0
  · rw [if_pos e0, if_pos e0]
    dsimp only
    refine ⟨?_, fun x => by rw [x], ?_, fun u hu => ?_⟩
    · rw [qs_f, qs_f, qs_f, qs_f, rs7, rv5, rv6, up_comm (by omega)]
      have ev : (if Xm.1.1 (20, 0, 0) (41 + v) = nI s then mx e (if Xm.1.1 (20, 0, 0) (41 + v) = -1000 then -1000 else Xm.1.1 (20, 0, 0) (46 + v)) else e) = (if q Xm.1 (41 + v) = nI s ∧ e < q Xm.1 (46 + v) then q Xm.1 (46 + v) else e) := by
        by_cases z : Xm.1.1 (20, 0, 0) (41 + v) = nI s
        · rw [if_pos z, if_neg (by rw [z]; exact ne_m1000 (by omega))]
          unfold mx
          by_cases y : e < Xm.1.1 (20, 0, 0) (46 + v)
          · rw [if_pos y, if_pos ⟨z, y⟩]
          · rw [if_neg y, if_neg (fun w => y w.2)]
        · rw [if_neg z, if_neg (fun w => z w.1)]
      rw [ev]
      refine rv_prom (rv_term (rv_reas h hv) hv bl) hv hs ?_
      split
      · exact bp
      · exact he
    · show _ = (qs _ _ _).1 (20, 0, 0) _
      rw [qs_f, qs_f, qs_f, qs_f, up_n (by omega), up_n (by omega), up_n (by omega), up_e]
      simp [zz_gs, se_pp]
    · simp [zz_gs, se_pp, hu]
  · rw [if_neg e0, if_neg e0]
    dsimp only
    refine ⟨?_, fun x => x, ?_, fun u hu => ?_⟩
    · rw [qs_f]; exact rv_reas h hv
    · show _ = (qs _ _ _).1 (20, 0, 0) _
      rw [qs_f, up_e]
      simp [zz_gs]
    · simp [zz_gs, hu]
def RLI (s : Nat) (t e : Int32) (f0 : Nat → Int32) (G : Nat → Int32) (k : Nat) (F : Nat → Int32) : Prop :=
  (∀ i, i < 36 ∨ (51 ≤ i ∧ i < 1729) → F i = f0 i) ∧
  (∀ u, u < 5 → k ≤ u → F (41 + u) = f0 (41 + u) ∧ F (46 + u) = f0 (46 + u) ∧ F (36 + u) = f0 (36 + u)) ∧
  (∀ u, u < k → (G u = 0 → F (41 + u) = nI s ∧ e.toInt ≤ (F (46 + u)).toInt ∧ (f0 (41 + u) = nI s → (f0 (46 + u)).toInt ≤ (F (46 + u)).toInt) ∧ F (36 + u) = t) ∧ (¬ G u = 0 → F (41 + u) = f0 (41 + u) ∧ F (46 + u) = f0 (46 + u) ∧ F (36 + u) = f0 (36 + u)))
theorem r1_rli {Xm : zM × Int32} {f0 G : Nat → Int32} (hs : s < 5) (hv : v < 5) (hI : RLI s t e f0 G v (Xm.1.1 (20, 0, 0))) (hG : m_ar Xm.1 s v t = G v) :
    RLI s t e f0 G (v + 1) ((m_r1 s t e v Xm).1.1 (20, 0, 0)) ∧ (m_r1 s t e v Xm).2 = (if G v = 0 then Xm.2 + 1 else Xm.2) ∧ ∀ u, ¬ u = v → q (m_r1 s t e v Xm).1 (1729 + u) = q Xm.1 (1729 + u) := by
  obtain ⟨h1, h2, h3⟩ := hI
  obtain ⟨v1, v2, v3⟩ := h2 v hv (Nat.le_refl _)
  unfold m_r1
  rw [hG]
  by_cases g0 : G v = 0
  · rw [if_pos g0, if_pos g0]
    dsimp only
    have e1 : ∀ x : Int32, (∃ y, y = x) := fun x => ⟨x, rfl⟩
    obtain ⟨y, hy⟩ := e1 (if q Xm.1 (41 + v) = nI s ∧ e < q Xm.1 (46 + v) then q Xm.1 (46 + v) else e)
    have y1 : e.toInt ≤ y.toInt ∧ (f0 (41 + v) = nI s → (f0 (46 + v)).toInt ≤ y.toInt) := by
      rw [hy]
      unfold q
      rw [v1, v2]
      by_cases z : f0 (41 + v) = nI s ∧ e < f0 (46 + v)
      · rw [if_pos z]
        have := z.2
        rw [ni_lt] at this
        exact ⟨by omega, fun _ => Int.le_refl _⟩
      · rw [if_neg z]
        refine ⟨Int.le_refl _, fun x => ?_⟩
        have : ¬ e < f0 (46 + v) := fun w => z ⟨x, w⟩
        rw [ni_lt] at this
        omega
    rw [← hy]
    show RLI s t e f0 G (v + 1) ((qs _ _ _).1 (20, 0, 0)) ∧ _ ∧ ∀ u, ¬ u = v → (qs _ _ _).1 (20, 0, 0) _ = _
    rw [qs_f, qs_f, qs_f, qs_f]
    refine ⟨⟨fun i hi => ?_, fun u hu hk => ?_, fun u hu => ?_⟩, rfl, fun u hu => ?_⟩
    · rw [up_n (by omega), up_n (by omega), up_n (by omega), up_n (by omega)]; exact h1 i hi
    · obtain ⟨a, b, c⟩ := h2 u hu (by omega)
      refine ⟨by rw [up_n (by omega), up_n (by omega), up_n (by omega), up_n (by omega)]; exact a, by rw [up_n (by omega), up_n (by omega), up_n (by omega), up_n (by omega)]; exact b, by rw [up_n (by omega), up_n (by omega), up_n (by omega), up_n (by omega)]; exact c⟩
    · by_cases z : u = v
      · subst z
        refine ⟨fun _ => ⟨up_e _ _ _, ?_, fun x => ?_, ?_⟩, fun x => absurd g0 x⟩
        · rw [up_n (by omega), up_e]; exact y1.1
        · rw [up_n (by omega), up_e]; exact y1.2 x
        · rw [up_n (by omega), up_n (by omega), up_e]
      · have r1 := h3 u (by omega)
        rw [up_n (by omega), up_n (by omega), up_n (by omega), up_n (by omega), up_n (by omega), up_n (by omega), up_n (by omega), up_n (by omega), up_n (by omega), up_n (by omega), up_n (by omega), up_n (by omega)]
        exact r1
    · rw [up_n (by omega), up_n (by omega), up_n (by omega), up_n (by omega)]
  · rw [if_neg g0, if_neg g0]
    dsimp only
    show RLI s t e f0 G (v + 1) ((qs _ _ _).1 (20, 0, 0)) ∧ _ ∧ ∀ u, ¬ u = v → (qs _ _ _).1 (20, 0, 0) _ = _
    rw [qs_f]
    refine ⟨⟨fun i hi => ?_, fun u hu hk => ?_, fun u hu => ?_⟩, rfl, fun u hu => up_n (by omega)⟩
    · rw [up_n (by omega)]; exact h1 i hi
    · rw [up_n (by omega), up_n (by omega), up_n (by omega)]; exact h2 u hu (by omega)
    · rw [up_n (by omega), up_n (by omega), up_n (by omega)]
      by_cases z : u = v
      · subst z
        exact ⟨fun x => absurd x g0, fun _ => ⟨v1, v2, v3⟩⟩
      · exact h3 u (by omega)
theorem rn_loop (h : RV d n Mc (Mm.1 (20, 0, 0))) (hD : yD d Mc Mm) (hs : s < 5) (ht : q Mm (61 + s) = t) (h0 : ¬ t = 0) (he : -100 ≤ e.toInt ∧ e.toInt ≤ 100200) : ∀ k, k ≤ 5 →
    RV d n (zz_it (c_p1 s e) k (Mc, 0)).1 ((zz_it (m_r1 s t e) k (Mm, 0)).1.1 (20, 0, 0)) ∧ yD d (zz_it (c_p1 s e) k (Mc, 0)).1 (zz_it (m_r1 s t e) k (Mm, 0)).1 ∧
    (zz_it (c_p1 s e) k (Mc, 0)).2 = (zz_it (m_r1 s t e) k (Mm, 0)).2 ∧ (zz_it (m_r1 s t e) k (Mm, 0)).2 = nI (sf_cnt (fun u => decide (m_ar Mm s u t = 0)) k) ∧
    (∀ u, u < k → (zz_it (c_p1 s e) k (Mc, 0)).1.1 (11, 0, 0) u = q (zz_it (m_r1 s t e) k (Mm, 0)).1 (1729 + u)) ∧
    RLI s t e (Mm.1 (20, 0, 0)) (fun u => m_ar Mm s u t) k ((zz_it (m_r1 s t e) k (Mm, 0)).1.1 (20, 0, 0))
  | 0, _ => ⟨h, hD, rfl, rfl, fun u hu => absurd hu (by omega), fun i _ => rfl, fun u _ _ => ⟨rfl, rfl, rfl⟩, fun u hu => absurd hu (by omega)⟩
  | k + 1, hk => by
    obtain ⟨a1, a2, a3, a4, a5, a6⟩ := rn_loop h hD hs ht h0 he k (by omega)
    have lu : mn Mm (51 + k) ≤ 40 := (Vn_len h.2 (by omega)).2
    have ls : mn Mm (51 + s) ≤ 40 := (Vn_len h.2 hs).2
    have g6 := a6
    obtain ⟨c1, c2, _⟩ := a6
    obtain ⟨c3, c4, c5⟩ := c2 k (by omega) (Nat.le_refl _)
    have hl : q (zz_it (m_r1 s t e) k (Mm, 0)).1 (61 + s) = t := (c1 _ (by omega)).trans ht
    obtain ⟨b1, b2, b3, b4⟩ := r1_rv (t := t) (e := e) a1 a2 hs (show k < 5 by omega) hl h0 he
    have hG : m_ar (zz_it (m_r1 s t e) k (Mm, 0)).1 s k t = m_ar Mm s k t := by
      refine m_ar_c hs (by omega) ls lu ?_ (fun i hi => c1 i (by omega)) c3 c4 c5
      exact (mfr_it2 (M := Mm) (fun k X h => mfr_r1 h) k (Mm, 0) mfr_rfl).2 (6, 0, 0) 3 (by decide)
    obtain ⟨d1, d2, d3⟩ := r1_rli (G := fun u => m_ar Mm s u t) hs (show k < 5 by omega) g6 hG
    refine ⟨b1, yD_c a2 ?_ ?_, b2 a3, ?_, fun u hu => ?_, d1⟩
    · exact (fr_p1 (M := (zz_it (c_p1 s e) k (Mc, 0)).1) fr_rfl).2 (4, 0, 0) 0 rfl
    · exact (mfr_r1 (M := (zz_it (m_r1 s t e) k (Mm, 0)).1) mfr_rfl).2 (6, 0, 0) 3 (by decide)
    · rw [zz_it, d2, a4, sf_cnt]
      by_cases z : m_ar Mm s k t = 0
      · rw [if_pos z, if_pos (by simpa using z), nI_1]
      · rw [if_neg z, if_neg (by simpa using z)]; rfl
    · by_cases z : u = k
      · subst z; exact b3
      · rw [zz_it, zz_it, b4 u z, d3 u z]
        exact a5 u (by omega)
theorem rn_sf {F f' G : Nat → Int32} (hV : Vn d n (Mm.1 (20, 0, 0))) (hD : yD d Mc Mm) (hS : Sf (al (Mm.1 (20, 0, 0))) (an (Mm.1 (20, 0, 0)))) (hs : s < 5) (ha : sf_act (al (Mm.1 (20, 0, 0))) s) (hI : RLI s t e (Mm.1 (20, 0, 0)) G 5 F) (hG : ∀ u, u < 5 → G u = m_ar Mm s u t)
    (hf : ∀ i, ¬ i = 66 + s → i < 1729 → f' i = F i) (hl : (3 ≤ sf_cnt (fun u => decide (G u = 0)) 5 ∧ f' (66 + s) = mx e (Mm.1 (20, 0, 0) (66 + s))) ∨ f' (66 + s) = Mm.1 (20, 0, 0) (66 + s)) : Sf (al f') (an f') := by
  obtain ⟨h1, h2, h3⟩ := hI
  have lo : ∀ i, ¬ i = 66 + s → i < 36 ∨ (51 ≤ i ∧ i < 1729) → f' i = Mm.1 (20, 0, 0) i := fun i b c => by rw [hf i b (by omega), h1 i c]
  obtain ⟨c0, c1, c2⟩ := an_c (f := Mm.1 (20, 0, 0)) (f' := f') (fun i hi => lo i (by omega) (by omega))
  refine sf_renew (s := s) (e := e.toInt) (g := fun u => decide (G u = 0)) hs (al_hi (fun i a b => lo i (by omega) (by omega))) c0 c1 c2 hS ha ?_ (fun u hu => ⟨?_, fun hn => ?_⟩) (fun u hu g => ?_) (fun u hu g => ?_) (fun u hu => ?_) ?_
  · rw [al0, al0, lo 0 (by omega) (by omega)]
  · rw [al4 _ hu, al4 _ hu, lo _ (by omega) (by omega)]
  · rw [al5 _ hu, al5 _ hu, lo _ (by omega) (by omega)]
  · obtain ⟨a, b, c, _⟩ := (h3 u hu).1 (by simpa using g)
    rw [al2 _ hu, al3 _ hu, al2 _ hu, al3 _ hu, hf _ (by omega) (by omega), hf _ (by omega) (by omega), a, ni_n (by omega)]
    refine ⟨rfl, b, fun x => c ?_⟩
    rw [ni_eq, ni_n (by omega)]; exact x
  · obtain ⟨a, b, _⟩ := (h3 u hu).2 (by simpa using g)
    rw [al2 _ hu, al3 _ hu, al2 _ hu, al3 _ hu, hf _ (by omega) (by omega), hf _ (by omega) (by omega), a, b]
    exact ⟨rfl, rfl⟩
  · rw [al1 _ hu, al1 _ hu, hf _ (by omega) (by omega)]
    by_cases z : G u = 0
    · obtain ⟨_, _, _, c⟩ := (h3 u hu).1 z
      rw [c]
      rw [hG u hu] at z
      have := (m_ar_0 z).2.1
      rw [ni_lt] at this
      unfold q at this
      omega
    · rw [((h3 u hu).2 z).2.2]; exact Int.le_refl _
  · rw [al5 _ hs, al5 _ hs]
    rcases hl with ⟨a, b⟩ | b
    · left
      rw [b, mx_i]
      refine ⟨a, by omega, by omega⟩
    · right; rw [b]
theorem rn_main {dur : Int32} (h : Ok d n Mc (Mm.1 (20, 0, 0))) (hD : yD d Mc Mm) (hs : s < 5) (hd : 1 ≤ dur.toInt ∧ dur.toInt ≤ 100) (hh : m_ha Mm s = true) :
    (c_pr Mc s dur).1 = (m_rn Mm s dur).1 ∧ Ok d n (c_pr Mc s dur).2 ((m_rn Mm s dur).2.1 (20, 0, 0)) := by
  obtain ⟨h, hr, hS⟩ := h
  have ha := (ho_act h.2 hD hs hh).1
  have hl0 : ¬ q Mm (61 + s) = 0 := by
    intro z
    have := ha.1
    rw [al4 _ hs] at this
    unfold q at z
    rw [z, n_0] at this
    omega
  have er := v_rd h.2 hD hs
  have ho := (h.2.2.2.1 s hs).1
  have h0 := h.2.2.1
  have hd2 := hD.2.2
  have hei : (m_rd Mm s + dur).toInt = (m_rd Mm s).toInt + dur.toInt := ni_add (by omega) (by omega)
  obtain ⟨a1, a2, a3, a4, a5, a6⟩ := rn_loop (t := q Mm (61 + s)) (e := m_rd Mm s + dur) h hD hs rfl hl0 (by omega) 5 (Nat.le_refl _)
  have cl := sf_cnt_le (fun u => decide (m_ar Mm s u (q Mm (61 + s)) = 0)) 5
  have eX : c_pX Mc s dur = zz_it (c_p1 s (m_rd Mm s + dur)) 5 (Mc, 0) := by
    unfold c_pX; rw [b_rd h.1 hs]
  have eY : m_rX Mm s dur = zz_it (m_r1 s (q Mm (61 + s)) (m_rd Mm s + dur)) 5 (Mm, 0) := rfl
  rw [← eX] at a1 a2 a3 a5
  rw [← eY] at a1 a2 a3 a4 a5 a6
  clear eX eY
  unfold c_pr m_rn
  rw [b_rd h.1 hs, a3]
  generalize c_pX Mc s dur = Xc at *
  generalize m_rX Mm s dur = Xm at *
  have l3 : (Xm.2 < 3) = (sf_cnt (fun u => decide (m_ar Mm s u (q Mm (61 + s)) = 0)) 5 < 3) := by
    rw [a4, show (3 : Int32) = nI 3 from rfl, ni_ltn (by omega) (by omega)]
  have e61 : Xm.1.1 (20, 0, 0) (61 + s) = q Mm (61 + s) := a6.1 _ (by omega)
  have e66 : Xm.1.1 (20, 0, 0) (66 + s) = q Mm (66 + s) := a6.1 _ (by omega)
  have r8 := (a1.1.2.1 s hs).2.2.2.2.2.2
  rw [e61, if_neg hl0] at r8
  by_cases c3 : Xm.2 < 3
  · rw [if_pos c3, if_pos c3]
    dsimp only
    refine ⟨rfl, ?_⟩
    rw [qs_f]
    refine ⟨rv_f a1 (by omega), fun u hu => ?_, ?_⟩
    · rw [up_e, if_pos rfl, up_n (by omega)]
      exact a5 u hu
    · refine rn_sf h.2 hD hS hs ha a6 (fun u hu => rfl) (fun i x z => up_n (by omega)) (Or.inr ?_)
      rw [up_n (by omega), e66]
  · rw [if_neg c3, if_neg c3]
    dsimp only
    rw [r8, mx_comm (Xm.1.1 (20, 0, 0) (66 + s))]
    refine ⟨rfl, ?_⟩
    rw [qs_f, qs_f]
    refine ⟨rv_end (rv_f a1 (by omega)) hs (by rw [up_n (by omega), e61]; exact hl0), fun u hu => ?_, ?_⟩
    · rw [up_n (by omega), up_e, if_pos rfl, up_n (by omega), up_n (by omega)]
      show _ = q Xm.1 (1729 + u)
      rw [← a5 u hu]
      simp [zz_gs]
    · refine rn_sf h.2 hD hS hs ha a6 (fun u hu => rfl) (fun i x z => by rw [up_n x, up_n (by omega)]) (Or.inl ⟨?_, ?_⟩)
      · rw [l3] at c3; omega
      · rw [up_e]; unfold q; rw [e66]
end RN
section GU
variable {d : Int} {n s v : Nat} {Mc Mm : zM}
theorem gu_loop (h : RV d n Mc (Mm.1 (20, 0, 0))) (hs : s < 5) : ∀ k, k ≤ 5 →
    RV d n (zz_it (c_a1 s) k (se_pl Mc 0 s (-1000) (-1000), 0)).1 ((zz_it (m_u1 s) k (qs Mm (61 + s) 0, 0)).1.1 (20, 0, 0)) ∧ (zz_it (c_a1 s) k (se_pl Mc 0 s (-1000) (-1000), 0)).2 = (zz_it (m_u1 s) k (qs Mm (61 + s) 0, 0)).2 ∧
    (∀ u, (zz_it (c_a1 s) k (se_pl Mc 0 s (-1000) (-1000), 0)).1.1 (11, 0, 0) u = Mc.1 (11, 0, 0) u) ∧
    (∀ i, ¬ (41 ≤ i ∧ i < 46) → (zz_it (m_u1 s) k (qs Mm (61 + s) 0, 0)).1.1 (20, 0, 0) i = up (Mm.1 (20, 0, 0)) (61 + s) 0 i) ∧
    (∀ u, u < 5 → (zz_it (m_u1 s) k (qs Mm (61 + s) 0, 0)).1.1 (20, 0, 0) (41 + u) = Mm.1 (20, 0, 0) (41 + u) ∨ Mm.1 (20, 0, 0) (41 + u) = nI s)
  | 0, _ => by
    show RV d n (se_pl Mc 0 s (-1000) (-1000)) ((qs Mm (61 + s) 0).1 (20, 0, 0)) ∧ _ ∧ (∀ u, (se_pl Mc 0 s (-1000) (-1000)).1 (11, 0, 0) u = _) ∧ (∀ i, _ → (qs Mm (61 + s) 0).1 (20, 0, 0) i = _) ∧ (∀ u, u < 5 → (qs Mm (61 + s) 0).1 (20, 0, 0) _ = _ ∨ _)
    rw [qs_f]
    exact ⟨rv_leaseN h hs, rfl, fun u => by simp [se_pl, zz_gs], fun i _ => rfl, fun u hu => Or.inl (up_n (by omega))⟩
  | k + 1, hk => by
    obtain ⟨a1, a2, a3, a4, a5⟩ := gu_loop h hs k (by omega)
    rw [zz_it, zz_it]
    generalize zz_it (c_a1 s) k (se_pl Mc 0 s (-1000) (-1000), 0) = Xc at *
    generalize zz_it (m_u1 s) k (qs Mm (61 + s) 0, 0) = Xm at *
    unfold c_a1 m_u1
    rw [b_re a1.1 hs (show k < 5 by omega), (a1.1.2.1 k (by omega)).2.2.2.1]
    by_cases c : m_re Xm.1 s k = true ∧ Xm.1.1 (20, 0, 0) (41 + k) = nI s
    · rw [if_pos c, if_pos c]
      dsimp only
      rw [qs_f]
      refine ⟨rv_promN a1 (by omega), by rw [a2], fun u => ?_, fun i hi => ?_, fun u hu => ?_⟩
      · rw [← a3 u]; simp [se_pp, zz_gs]
      · rw [up_n (by omega)]; exact a4 i hi
      · by_cases z : u = k
        · subst z
          right
          rcases a5 u hu with x | x
          · rw [← x]; exact c.2
          · exact x
        · rw [up_n (by omega)]; exact a5 u hu
    · rw [if_neg c, if_neg c]
      exact ⟨a1, a2, a3, a4, a5⟩
theorem gu_main (h : Ok d n Mc (Mm.1 (20, 0, 0))) (hs : s < 5) : (c_ab Mc s).2 = (m_gu Mm s).2 ∧ Ok d n (c_ab Mc s).1 ((m_gu Mm s).1.1 (20, 0, 0)) := by
  obtain ⟨h, hr, hS⟩ := h
  obtain ⟨a1, a2, a3, a4, a5⟩ := gu_loop h hs 5 (Nat.le_refl _)
  unfold c_ab m_gu
  generalize zz_it (c_a1 s) 5 (se_pl Mc 0 s (-1000) (-1000), 0) = Xc at *
  generalize zz_it (m_u1 s) 5 (qs Mm (61 + s) 0, 0) = Xm at *
  refine ⟨a2, a1, fun u hu => ?_, ?_⟩
  · rw [a3, a4 _ (by omega), a4 _ (by omega), up_n (by omega), up_n (by omega)]
    exact hr u hu
  · have lo : ∀ i, ¬ (41 ≤ i ∧ i < 46) → ¬ i = 61 + s → Xm.1.1 (20, 0, 0) i = Mm.1 (20, 0, 0) i := fun i x y => by rw [a4 i x, up_n y]
    have e61 : Xm.1.1 (20, 0, 0) (61 + s) = 0 := by rw [a4 _ (by omega), up_e]
    obtain ⟨c0, c1, c2⟩ := an_c (f := Mm.1 (20, 0, 0)) (f' := Xm.1.1 (20, 0, 0)) (fun i hi => lo i (by omega) (by omega))
    refine sf_less s (al_hi (fun i x y => lo i (by omega) (by omega))) c0 c1 c2 hS ?_ (fun u hu => ?_) (fun u hu => ?_) (fun u hu => ?_)
    · rw [al0, al0, lo 0 (by omega) (by omega)]; exact Int.le_refl _
    · by_cases z : u = s
      · subst z
        left
        rw [al4 _ hu, e61]
        exact ⟨rfl, rfl⟩
      · right
        rw [al4 _ hu, al4 _ hu, al5 _ hu, al5 _ hu, lo _ (by omega) (by omega), lo _ (by omega) (by omega)]
        exact ⟨rfl, rfl⟩
    · rcases a5 u hu with x | x
      · left
        rw [al2 _ hu, al2 _ hu, al3 _ hu, al3 _ hu, x, lo _ (by omega) (by omega)]
        exact ⟨rfl, rfl⟩
      · right
        rw [al2 _ hu, al4 _ hs, e61, x, ni_n (by omega)]
        exact ⟨rfl, rfl⟩
    · rw [al1 _ hu, al1 _ hu, lo _ (by omega) (by omega)]; exact Int.le_refl _
end GU
