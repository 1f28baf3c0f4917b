def clf (f : Nat → Int32) (s v n : Nat) (t x : Int32) : Nat → Int32 := up (up (up (fun i => if 476 + 160 * v ≤ i ∧ i < 476 + 160 * v + 4 * n then f (476 + 160 * s + (i - (476 + 160 * v))) else f i) (51 + v) (nI n)) (36 + v) t) (56 + v) x
theorem m_cl_f (M : zM) (s v : Nat) (t dn : Int32) : (m_cl M s v t dn).1 (20, 0, 0) = clf (M.1 (20, 0, 0)) s v (mn M (51 + s)) t (mx dn (q M (56 + v))) := by
  unfold m_cl clf
  rw [qs_f, qs_f, qs_f]
  congr 3
theorem Vn_g {d : Int} {n n' : Nat} {f f' : Nat → Int32} (h : Vn d n f) (hm : ∀ i, mwi i → f' i = f i ∨ ∃ x, x ≤ mwb i ∧ f' i = nI x) (h0 : 0 ≤ (f' 0).toInt ∧ (f' 0).toInt ≤ 100000) (hs : ∀ s, s < 5 → Vs d n' f' s) (hg : ∀ i, 1647 ≤ i → i < 1728 → f' i = f i) : Vn d n' f' := by
  obtain ⟨a1, a2, a3, a4⟩ := h
  have e1 : fl f' 1647 = fl f 1647 := fl_c (hg _ (by omega) (by omega))
  refine ⟨fun i hi => ?_, h0, hs, fun k hk => ?_⟩
  · rcases hm i hi with e | ⟨x, hx, e⟩
    · rw [fl_c e, e]; exact a1 i hi
    · have := mwb50 i
      have e2 : fl f' i = x := fl_n e (by omega)
      rw [e2]; exact ⟨e, hx⟩
  · rw [e1] at hk
    have b := (a1 1647 (by unfold mwi; omega)).2
    have b2 : mwb 1647 = 20 := by decide
    rw [hg _ (by omega) (by omega), hg _ (by omega) (by omega)]
    exact a4 k hk
theorem al_hk {f f' : Nat → Int32} {v : Nat} (hv : v < 6) (h : ∀ i, 76 ≤ i → i < 1436 → ¬ (476 + 160 * v ≤ i ∧ i < 636 + 160 * v) → f' i = f i) : ∀ k, 10 ≤ k → ¬ k = 10 + v → ∀ j, al f' k j = al f k j := by
  intro k hk hkv j
  have a0 : ¬ k < 10 := by omega
  unfold al
  simp only [if_neg a0]
  by_cases a : k < 16
  · simp only [if_pos a]
    by_cases b : j < 160
    · simp only [if_pos b]; rw [h _ (by omega) (by omega) (by omega)]
    · simp only [if_neg b]
  · simp only [if_neg a]
    by_cases c : 20 ≤ k ∧ k < 25
    · simp only [if_pos c]
      by_cases b : j < 40
      · simp only [if_pos b]; rw [h _ (by omega) (by omega) (by omega)]
      · simp only [if_neg b]
    · simp only [if_neg c]
      by_cases c : 30 ≤ k ∧ k < 35
      · simp only [if_pos c]
        by_cases b : j < 40
        · simp only [if_pos b]; rw [h _ (by omega) (by omega) (by omega)]
        · simp only [if_neg b]
      · simp only [if_neg c]
section SH
variable {d : Int} {n s v : Nat} {Mc Mm : zM} {t cm : Int32}
theorem sh_o {r : zR} {i : Nat} (h7 : ¬ r = (7, 0, v)) (h1 : ¬ r = (1, 0, v)) (h3 : ¬ r = (3, 0, v)) (h0 : ¬ r = (0, 0, v)) : (c_sh Mc s v cm).1 r i = Mc.1 r i := by
  unfold c_sh ro_copy
  rw [zz_gs, if_neg (fun z => h0 z.1), zz_gs, if_neg (fun z => h3 z.1), zz_gs, if_neg (fun z => h1 z.1), zz_gc, if_neg h7]
theorem sh_3 {i : Nat} : (c_sh Mc s v cm).1 (3, 0, v) i = if i = 4 then Mc.1 (3, 0, s) 7 else Mc.1 (3, 0, v) i := by
  unfold c_sh ro_copy
  rw [zz_gs, if_neg (by simp), zz_gs]
  by_cases z : i = 4
  · rw [if_pos ⟨rfl, z⟩, if_pos z]
  · rw [if_neg (fun y => z y.2), if_neg z, zz_gs, if_neg (by simp), zz_gc, if_neg (by simp)]
theorem sh_1 : (c_sh Mc s v cm).1 (1, 0, v) 1 = nI (rn Mc 0 s) := by
  unfold c_sh ro_copy
  rw [zz_gs, if_neg (by simp), zz_gs, if_neg (by simp), zz_gs, if_pos ⟨rfl, rfl⟩]
theorem sh_0 : (c_sh Mc s v cm).1 (0, 0, v) 1 = mx (Mc.1 (0, 0, v) 1) cm := by
  unfold c_sh ro_copy
  rw [zz_gs, if_pos ⟨rfl, rfl⟩]
theorem sh_7 {i : Nat} (hi : i < 4 * rn Mc 0 s) : (c_sh Mc s v cm).1 (7, 0, v) i = Mc.1 (7, 0, s) i := by
  unfold c_sh ro_copy
  rw [zz_gs, if_neg (by simp), zz_gs, if_neg (by simp), zz_gs, if_neg (by simp), zz_gc, if_pos rfl]
  show (if 0 ≤ i ∧ i < 0 + 4 * rn Mc 0 s then Mc.1 (7, 0, s) (0 + (i - 0)) else _) = _
  rw [if_pos (by omega)]
  exact congrArg _ (by omega)
theorem clf_o {f : Nat → Int32} {m i : Nat} {x : Int32} (hm : m ≤ 40) (h1 : ¬ i = 51 + v) (h2 : ¬ i = 36 + v) (h3 : ¬ i = 56 + v) (h4 : ¬ (476 + 160 * v ≤ i ∧ i < 636 + 160 * v)) : clf f s v m t x i = f i := by
  unfold clf
  rw [up_n h3, up_n h2, up_n h1, if_neg (by omega)]
theorem clf_l {f : Nat → Int32} {m j : Nat} {x : Int32} (hm : m ≤ 40) (hv : v < 5) (hj : j < 160) : clf f s v m t x (476 + 160 * v + j) = if j < 4 * m then f (476 + 160 * s + j) else f (476 + 160 * v + j) := by
  unfold clf
  rw [up_n (by omega), up_n (by omega), up_n (by omega)]
  by_cases z : j < 4 * m
  · rw [if_pos (by omega), if_pos z]; exact congrArg f (by omega)
  · rw [if_neg (by omega), if_neg z]
theorem sh_rv {x : Int32} (h : RV d n Mc (Mm.1 (20, 0, 0))) (hs : s < 5) (hv : v < 5) (hsv : ¬ v = s) (ht : q Mm (61 + s) = t) (h0 : ¬ t = 0) (hx : x = mx (Mc.1 (0, 0, v) 1) cm) (hc : cm = q Mm (56 + s)) :
    RV d n (c_sh Mc s v cm) (clf (Mm.1 (20, 0, 0)) s v (mn Mm (51 + s)) t x) := by
  obtain ⟨⟨a1, a2, a3, a4, a5, a6, a7, a8, a9⟩, hV⟩ := h
  obtain ⟨l1, l2⟩ := Vn_len hV hs
  obtain ⟨u1, u2⟩ := Vn_done hV hv
  obtain ⟨w1, w2⟩ := Vn_done hV hs
  have hm : mn Mm (51 + s) ≤ 40 := l2
  have er : rn Mc 0 s = mn Mm (51 + s) := by unfold rn mn q; rw [(a4 s hs).1]
  have bl := (hV.2.2.1 s hs).2.2.2.2
  have ex : x = nI (max (fl (Mm.1 (20, 0, 0)) (56 + v)) (fl (Mm.1 (20, 0, 0)) (56 + s))) := by
    rw [hx, hc, (a4 v hv).2.1, ← ni_max (by omega) (by omega), ← u1, ← w1]; rfl
  have es : clf (Mm.1 (20, 0, 0)) s v (mn Mm (51 + s)) t x (51 + v) = nI (mn Mm (51 + s)) := by
    unfold clf; rw [up_n (by omega), up_n (by omega), up_e]
  have et : clf (Mm.1 (20, 0, 0)) s v (mn Mm (51 + s)) t x (36 + v) = t := by
    unfold clf; rw [up_n (by omega), up_e]
  have ed : clf (Mm.1 (20, 0, 0)) s v (mn Mm (51 + s)) t x (56 + v) = x := by
    unfold clf; rw [up_e]
  have fo : ∀ i, ¬ i = 51 + v → ¬ i = 36 + v → ¬ i = 56 + v → ¬ (476 + 160 * v ≤ i ∧ i < 636 + 160 * v) → clf (Mm.1 (20, 0, 0)) s v (mn Mm (51 + s)) t x i = Mm.1 (20, 0, 0) i := fun i b1 b2 b3 b4 => clf_o hm b1 b2 b3 b4
  have flv : fl (clf (Mm.1 (20, 0, 0)) s v (mn Mm (51 + s)) t x) (51 + v) = mn Mm (51 + s) := fl_n es (by omega)
  refine ⟨⟨?_, ?_, ?_, ?_, ?_, ?_, ?_, ?_, ?_⟩, ?_⟩
  · exact yT_c a1 (fun i => sh_o (by simp) (by simp) (by simp) (by simp)) (fo _ (by omega) (by omega) (by omega) (by omega)) (fo _ (by omega) (by omega) (by omega) (by omega)) (fo _ (by omega) (by omega) (by omega) (by omega))
  · intro u hu
    obtain ⟨b1, b2, b3, b4, b5, b6, b7⟩ := a2 u hu
    obtain ⟨_, _, _, _, _, s7, _⟩ := a2 s hs
    have s7' : Mc.1 (3, 0, s) 7 = t := by
      rw [s7]
      unfold q at ht
      rw [ht, if_neg h0]
    by_cases z : u = v
    · subst z
      unfold yS1
      simp only [sh_3]
      rw [fo _ (by omega) (by omega) (by omega) (by omega), fo _ (by omega) (by omega) (by omega) (by omega), et, fo _ (by omega) (by omega) (by omega) (by omega), fo _ (by omega) (by omega) (by omega) (by omega), fo _ (by omega) (by omega) (by omega) (by omega), fo _ (by omega) (by omega) (by omega) (by omega)]
      exact ⟨b1, b2, s7', b4, b5, b6, b7⟩
    · unfold yS1
      have k3 : ∀ i, (c_sh Mc s v cm).1 (3, 0, u) i = Mc.1 (3, 0, u) i := fun i => sh_o (by simp) (by simp) (by simp [z]) (by simp)
      rw [k3, k3, k3, k3, k3, k3, k3, fo _ (by omega) (by omega) (by omega) (by omega), fo _ (by omega) (by omega) (by omega) (by omega), fo _ (by omega) (by omega) (by omega) (by omega), fo _ (by omega) (by omega) (by omega) (by omega), fo _ (by omega) (by omega) (by omega) (by omega), fo _ (by omega) (by omega) (by omega) (by omega), fo _ (by omega) (by omega) (by omega) (by omega)]
      exact ⟨b1, b2, b3, b4, b5, b6, b7⟩
  · exact yK_c a3 (fun i => sh_o (by simp) (by simp) (by simp) (by simp)) (fun i _ _ => fo _ (by omega) (by omega) (by omega) (by omega))
  · intro u hu
    obtain ⟨b1, b2, b3⟩ := a4 u hu
    by_cases z : u = v
    · subst z
      rw [sh_1, sh_0, es, ed, flv, er]
      refine ⟨rfl, hx.symm, fun i hi => ?_⟩
      rw [sh_7 (by rw [er]; exact hi), clf_l hm hu (by omega), if_pos hi]
      exact (a4 s hs).2.2 i hi
    · rw [sh_o (by simp) (by simp [z]) (by simp) (by simp), sh_o (by simp) (by simp) (by simp) (by simp [z]), fo _ (by omega) (by omega) (by omega) (by omega), fo _ (by omega) (by omega) (by omega) (by omega), fl_c (fo (51 + u) (by omega) (by omega) (by omega) (by omega))]
      have lu := (Vn_len hV hu).2
      refine ⟨b1, b2, fun i hi => ?_⟩
      rw [sh_o (by simp [z]) (by simp) (by simp) (by simp), fo _ (by omega) (by omega) (by omega) (by omega)]
      exact b3 i hi
  · exact yH_c a5 (Vn_hist hV).2 (sh_o (by simp) (by simp; omega) (by simp) (by simp)) (sh_o (by simp) (by simp) (by simp) (by simp; omega)) (fun i => sh_o (by simp; omega) (by simp) (by simp) (by simp)) (fun i _ _ => fo _ (by omega) (by omega) (by omega) (by omega))
  · exact yO_c a6 (fun u hu => (Vn_due hV hu).2) (fun u hu => sh_o (by simp) (by simp; omega) (by simp) (by simp)) (fun u hu i => sh_o (by simp; omega) (by simp) (by simp) (by simp)) (fun i _ _ => fo _ (by omega) (by omega) (by omega) (by omega))
  · exact yG_c a7 (Vn_kept hV).2 (sh_o (by simp) (by simp; omega) (by simp) (by simp)) (fun i => sh_o (by simp; omega) (by simp) (by simp) (by simp)) (fun i _ _ _ => fo _ (by omega) (by omega) (by omega) (by omega))
  · exact yC_c a8 (fun i => sh_o (by simp) (by simp) (by simp) (by simp)) (fun i => sh_o (by simp) (by simp) (by simp) (by simp)) (fun i _ _ => fo _ (by omega) (by omega) (by omega) (by omega))
  · exact yM_c a9 (Vn_sent hV).2 (sh_o (by simp) (by simp; omega) (by simp) (by simp)) (fun i => sh_o (by simp; omega) (by simp) (by simp) (by simp)) (fun i _ _ => fo _ (by omega) (by omega) (by omega) (by omega))
  · refine Vn_g hV (fun i hi => ?_) ?_ (fun u hu => ?_) (fun i _ _ => fo _ (by omega) (by omega) (by omega) (by omega))
    · by_cases z1 : i = 51 + v
      · right; subst z1; exact ⟨_, by rw [show mwb (51 + v) = 40 by unfold mwb; rw [if_neg (by omega), if_neg (by omega)]]; exact hm, es⟩
      · by_cases z2 : i = 56 + v
        · right; subst z2; exact ⟨max (fl (Mm.1 (20, 0, 0)) (56 + v)) (fl (Mm.1 (20, 0, 0)) (56 + s)), by rw [show mwb (56 + v) = 40 by unfold mwb; rw [if_neg (by omega), if_neg (by omega)]]; omega, by rw [ed]; exact ex⟩
        · left; exact fo _ z1 (by unfold mwi at hi; omega) z2 (by unfold mwi at hi; omega)
    · rw [fo _ (by omega) (by omega) (by omega) (by omega)]; exact hV.2.1
    · have b := hV.2.2.1 u hu
      unfold Vs
      rw [fo (1 + u) (by omega) (by omega) (by omega) (by omega), fo (41 + u) (by omega) (by omega) (by omega) (by omega), fo (46 + u) (by omega) (by omega) (by omega) (by omega), fo (61 + u) (by omega) (by omega) (by omega) (by omega)]
      by_cases z : u = v
      · subst z
        rw [et]
        unfold q at ht
        rw [ht] at bl
        exact ⟨b.1, bl, b.2.2⟩
      · rw [fo (36 + u) (by omega) (by omega) (by omega) (by omega)]
        exact b
theorem sh_sf {x : Int32} (hV : Vn d n (Mm.1 (20, 0, 0))) (hS : Sf (al (Mm.1 (20, 0, 0))) (an (Mm.1 (20, 0, 0)))) (hs : s < 5) (hv : v < 5) (hsv : ¬ v = s) (ha : sf_act (al (Mm.1 (20, 0, 0))) s) (ht : ¬ t < q Mm (36 + v)) (hx : x = mx (q Mm (56 + s)) (q Mm (56 + v))) :
    Sf (al (clf (Mm.1 (20, 0, 0)) s v (mn Mm (51 + s)) t x)) (an (clf (Mm.1 (20, 0, 0)) s v (mn Mm (51 + s)) t x)) := by
  obtain ⟨l1, l2⟩ := Vn_len hV hs
  obtain ⟨u1, u2⟩ := Vn_done hV hv
  obtain ⟨w1, w2⟩ := Vn_done hV hs
  have hm : mn Mm (51 + s) ≤ 40 := l2
  have fo : ∀ i, ¬ i = 51 + v → ¬ i = 36 + v → ¬ i = 56 + v → ¬ (476 + 160 * v ≤ i ∧ i < 636 + 160 * v) → clf (Mm.1 (20, 0, 0)) s v (mn Mm (51 + s)) t x i = Mm.1 (20, 0, 0) i := fun i b1 b2 b3 b4 => clf_o hm b1 b2 b3 b4
  have es : clf (Mm.1 (20, 0, 0)) s v (mn Mm (51 + s)) t x (51 + v) = nI (mn Mm (51 + s)) := by
    unfold clf; rw [up_n (by omega), up_n (by omega), up_e]
  have et : clf (Mm.1 (20, 0, 0)) s v (mn Mm (51 + s)) t x (36 + v) = t := by
    unfold clf; rw [up_n (by omega), up_e]
  have ed : clf (Mm.1 (20, 0, 0)) s v (mn Mm (51 + s)) t x (56 + v) = x := by
    unfold clf; rw [up_e]
  have ex : x = nI (max (fl (Mm.1 (20, 0, 0)) (56 + v)) (fl (Mm.1 (20, 0, 0)) (56 + s))) := by
    have e1 : x = mx (q Mm (56 + v)) (q Mm (56 + s)) := by rw [hx, mx_comm]
    rw [e1, ← ni_max (by omega) (by omega), ← u1, ← w1]; rfl
  refine sf_share hs hv hsv hS ha (fun j hj => ?_) (al_hk (v := v) (by omega) (fun i a b c => fo i (by omega) (by omega) (by omega) c)) ?_ (fun u hu => ?_) (fun u hu => ?_) ?_ (fun u hu hn => ?_) ?_ (fun u hu hn => ?_) (fun u hu => ?_)
  · rw [alL _ (by omega) hj, alL _ (by omega) hj, alL _ (by omega) hj, clf_l hm hv hj, an0 _ hs]
    show (if j < 4 * fl (Mm.1 (20, 0, 0)) (51 + s) then _ else _ : Int32).toInt = _
    by_cases z : j < 4 * fl (Mm.1 (20, 0, 0)) (51 + s)
    · rw [if_pos z, if_pos z]
    · rw [if_neg z, if_neg z]
  · rw [al0, al0, fo _ (by omega) (by omega) (by omega) (by omega)]
  · rw [al4 _ hu, al4 _ hu, al5 _ hu, al5 _ hu, al2 _ hu, al2 _ hu, al3 _ hu, al3 _ hu, fo _ (by omega) (by omega) (by omega) (by omega), fo _ (by omega) (by omega) (by omega) (by omega), fo _ (by omega) (by omega) (by omega) (by omega), fo _ (by omega) (by omega) (by omega) (by omega)]
    exact ⟨rfl, rfl, rfl, rfl⟩
  · rw [al1 _ hu, al1 _ hu]
    by_cases z : u = v
    · subst z
      rw [et]
      rw [ni_lt] at ht
      unfold q at ht
      omega
    · rw [fo _ (by omega) (by omega) (by omega) (by omega)]; exact Int.le_refl _
  · rw [an0 _ hv, an0 _ hs]; exact fl_n es (by omega)
  · by_cases z : u = 5
    · subst z; rw [an5, an5]; exact fl_c (fo _ (by omega) (by omega) (by omega) (by omega))
    · rw [an0 _ (by omega), an0 _ (by omega)]; exact fl_c (fo _ (by omega) (by omega) (by omega) (by omega))
  · rw [an1 _ hv, an1 _ hv, an1 _ hs]; exact fl_n (by rw [ed]; exact ex) (by omega)
  · rw [an1 _ hu, an1 _ hu]; exact fl_c (fo _ (by omega) (by omega) (by omega) (by omega))
  · rw [an2 _ hu, an2 _ hu]; exact fl_c (fo _ (by omega) (by omega) (by omega) (by omega))
theorem sh_main (h : Ok d n Mc (Mm.1 (20, 0, 0))) (hs : s < 5) (hv : v < 5) (hsv : ¬ v = s) (ha : sf_act (al (Mm.1 (20, 0, 0))) s) (ht : q Mm (61 + s) = t) (htv : ¬ t < q Mm (36 + v)) (hc : cm = q Mm (56 + s)) :
    Ok d n (c_sh Mc s v cm) ((m_cl Mm s v t cm).1 (20, 0, 0)) := by
  obtain ⟨h, hr, hS⟩ := h
  have h0 : ¬ t = 0 := by
    have := ha.1
    rw [al4 _ hs] at this
    unfold q at ht
    rw [ht] at this
    intro z
    rw [z, n_0] at this
    omega
  rw [m_cl_f]
  have hm : mn Mm (51 + s) ≤ 40 := (Vn_len h.2 hs).2
  refine ⟨sh_rv h hs hv hsv ht h0 ?_ hc, fun u hu => ?_, sh_sf h.2 hS hs hv hsv ha htv (by rw [hc])⟩
  · rw [mx_comm, (h.1.2.2.2.1 v hv).2.1]
  · rw [sh_o (by simp) (by simp) (by simp) (by simp), clf_o hm (by omega) (by omega) (by omega) (by omega), clf_o hm (by omega) (by omega) (by omega) (by omega)]
    exact hr u hu
end SH
