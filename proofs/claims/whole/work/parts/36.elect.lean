theorem up_s {f : Nat → Int32} {i : Nat} {x : Int32} (h : f i = x) : up f i x = f := by
  funext j
  unfold up
  split
  · next e => rw [e, h]
  · rfl
theorem mx_comm (a b : Int32) : mx a b = mx b a := by
  unfold mx
  by_cases h1 : a < b
  · rw [if_pos h1, if_neg]
    rw [ni_lt] at h1 ⊢; omega
  · by_cases h2 : b < a
    · rw [if_neg h1, if_pos h2]
    · rw [if_neg h1, if_neg h2, ni_eq]
      rw [ni_lt] at h1 h2; omega
theorem mx_i (a b : Int32) : (mx a b).toInt = max a.toInt b.toInt := by
  unfold mx
  split
  · next h => rw [ni_lt] at h; omega
  · next h => rw [ni_lt] at h; omega
section EC
variable {M M' : zM} {s v : Nat} {t : Int32}
theorem m_re_c (hs : s < 5) (hv : v < 5) (hf : ∀ i, i < 36 → q M' i = q M i) : m_re M' s v = m_re M s v := by
  unfold m_re m_ru
  rw [hf _ (by omega), hf _ (by omega), hf _ (by omega)]
theorem m_ip_c (hv : v < 5) (hd : M'.1 (6, 0, 0) 3 = M.1 (6, 0, 0) 3) (hf : ∀ i, i < 36 → q M' i = q M i) (h1 : q M' (41 + v) = q M (41 + v)) (h2 : q M' (46 + v) = q M (46 + v)) : m_ip M' s v = m_ip M s v := by
  unfold m_ip m_ea m_rd
  rw [h1, h2, hd, hf 0 (by omega), hf (1 + v) (by omega)]
theorem m_lt_c (hs : s < 5) (hl : mn M (51 + s) ≤ 40) (hf : ∀ i, (51 ≤ i ∧ i < 61) ∨ (476 ≤ i ∧ i < 1276) → q M' i = q M i) : m_lt M' s = m_lt M s := by
  have e : q M' (51 + s) = q M (51 + s) := hf _ (by omega)
  have e2 : mn M' (51 + s) = mn M (51 + s) := by unfold mn; rw [e]
  unfold m_lt m_pt
  rw [e, e2]
  by_cases z : q M (51 + s) = 0
  · rw [if_pos z, if_pos z]
  · rw [if_neg z, if_neg z, hf _ (by omega)]
theorem m_ir_c (hs : s < 5) (hv : v < 5) (hl : mn M (51 + s) ≤ 40) (hl2 : mn M (51 + v) ≤ 40) (hf : ∀ i, (51 ≤ i ∧ i < 61) ∨ (476 ≤ i ∧ i < 1276) → q M' i = q M i) : m_ir M' s v = m_ir M s v := by
  unfold m_ir
  rw [m_lt_c hs hl hf, m_lt_c hv hl2 hf, hf _ (by omega), hf _ (by omega)]
theorem m_at_c (hs : s < 5) (hv : v < 5) (hl : mn M (51 + s) ≤ 40) (hl2 : mn M (51 + v) ≤ 40) (hd : M'.1 (6, 0, 0) 3 = M.1 (6, 0, 0) 3) (hf : ∀ i, i < 36 ∨ (51 ≤ i ∧ i < 61) ∨ (476 ≤ i ∧ i < 1276) → q M' i = q M i) (h1 : q M' (41 + v) = q M (41 + v)) (h2 : q M' (46 + v) = q M (46 + v)) (h3 : ¬ v = s → q M' (36 + v) = q M (36 + v)) : m_at M' s v t = m_at M s v t := by
  have e : (¬ v = s ∧ ¬ q M' (36 + v) < t) = (¬ v = s ∧ ¬ q M (36 + v) < t) := by
    by_cases z : v = s
    · simp [z]
    · rw [h3 z]
  unfold m_at
  rw [m_re_c hs hv (fun i hi => hf i (by omega)), m_ip_c hv hd (fun i hi => hf i (by omega)) h1 h2, m_ir_c hs hv hl hl2 (fun i hi => hf i (by omega))]
  simp only [e]
theorem m_ar_c (hs : s < 5) (hv : v < 5) (hl : mn M (51 + s) ≤ 40) (hl2 : mn M (51 + v) ≤ 40) (hd : M'.1 (6, 0, 0) 3 = M.1 (6, 0, 0) 3) (hf : ∀ i, i < 36 ∨ (51 ≤ i ∧ i < 61) ∨ (476 ≤ i ∧ i < 1276) → q M' i = q M i) (h1 : q M' (41 + v) = q M (41 + v)) (h2 : q M' (46 + v) = q M (46 + v)) (h3 : q M' (36 + v) = q M (36 + v)) : m_ar M' s v t = m_ar M s v t := by
  unfold m_ar
  rw [m_re_c hs hv (fun i hi => hf i (by omega)), m_ip_c hv hd (fun i hi => hf i (by omega)) h1 h2, m_ir_c hs hv hl hl2 (fun i hi => hf i (by omega)), h1, h3]
end EC
section EL
variable {d : Int} {n s v : Nat} {t e : Int32}
theorem e1_rv {Xc Xm : zM × Int32} (h : RV d n Xc.1 (Xm.1.1 (20, 0, 0))) (hD : yD d Xc.1 Xm.1) (hs : s < 5) (hv : v < 5) (ht : 0 ≤ t.toInt ∧ t.toInt ≤ n) (he : -100 ≤ e.toInt ∧ e.toInt ≤ 100200) :
    RV d n (c_e1 s t e v Xc).1 ((m_e1 s t e v Xm).1.1 (20, 0, 0)) ∧ (Xc.2 = Xm.2 → (c_e1 s t e v Xc).2 = (m_e1 s t e v Xm).2) ∧ (c_e1 s t e v Xc).1.1 (11, 0, 0) v = q (m_e1 s t e v Xm).1 (1729 + v) ∧ ∀ u, ¬ u = v → (c_e1 s t e v Xc).1.1 (11, 0, 0) u = Xc.1.1 (11, 0, 0) u := by
  have ea := b_an (t := t) h.1 h.2 hD hs hv
  obtain ⟨_, _, rs4, _⟩ := h.1.2.1 s hs
  obtain ⟨_, _, rv4, _⟩ := h.1.2.1 v hv
  have bs := (h.2.2.2.1 s hs).2.1
  have bv := (h.2.2.2.1 v hv).2.1
  unfold c_e1 m_e1
  rw [ea]
  by_cases e2 : m_at Xm.1 s v t = 2
  · rw [if_pos e2]
    by_cases lt : q Xm.1 (36 + s) < q Xm.1 (36 + v)
    · rw [if_pos ⟨e2, lt⟩]
      dsimp only
      refine ⟨?_, fun x => x, ?_, fun u hu => ?_⟩
      · rw [qs_f, qs_f, rs4, rv4, show mx (Xm.1.1 (20, 0, 0) (36 + s)) (Xm.1.1 (20, 0, 0) (36 + v)) = q Xm.1 (36 + v) from if_pos lt]
        exact rv_term (rv_reas h hv) hs bv
      · show _ = (qs _ _ _).1 (20, 0, 0) _
        rw [qs_f, qs_f, up_n (by omega), up_e]
        simp [zz_gs]
      · simp [zz_gs, hu]
    · rw [if_neg (fun z => lt z.2), if_neg (by rw [e2]; decide)]
      dsimp only
      refine ⟨?_, fun x => x, ?_, fun u hu => ?_⟩
      · have h9 := rv_term (x := Xm.1.1 (20, 0, 0) (36 + s)) (rv_reas (x := m_at Xm.1 s v t) (y := m_at Xm.1 s v t) h hv) hs bs
        rw [up_s (i := 36 + s) (up_n (by omega))] at h9
        rw [qs_f, rs4, rv4, show mx (Xm.1.1 (20, 0, 0) (36 + s)) (Xm.1.1 (20, 0, 0) (36 + v)) = Xm.1.1 (20, 0, 0) (36 + s) from if_neg lt]
        exact h9
      · show _ = (qs _ _ _).1 (20, 0, 0) _
        rw [qs_f, up_e]
        simp [zz_gs]
      · simp [zz_gs, hu]
  · rw [if_neg e2, if_neg (fun z : m_at Xm.1 s v t = 2 ∧ q Xm.1 (36 + s) < q Xm.1 (36 + v) => e2 z.1)]
    by_cases e0 : m_at Xm.1 s v t = 0
    · rw [if_pos e0, if_pos e0]
      dsimp only
      refine ⟨?_, fun x => by rw [x], ?_, fun u hu => ?_⟩
      · rw [qs_f, qs_f, qs_f, qs_f, rv4, mx_comm t]
        refine rv_prom (rv_term (rv_reas h hv) hv ?_) hv hs he
        rw [mx_i]; omega
      · show _ = (qs _ _ _).1 (20, 0, 0) _
        rw [qs_f, qs_f, qs_f, qs_f, up_n (by omega), up_n (by omega), up_n (by omega), up_e]
        simp [zz_gs, se_pp]
      · simp [zz_gs, se_pp, hu]
    · rw [if_neg e0, if_neg e0]
      dsimp only
      refine ⟨?_, fun x => x, ?_, fun u hu => ?_⟩
      · rw [qs_f]; exact rv_reas h hv
      · show _ = (qs _ _ _).1 (20, 0, 0) _
        rw [qs_f, up_e]
        simp [zz_gs]
      · simp [zz_gs, hu]
def ELI (s : Nat) (t e : Int32) (f0 : Nat → Int32) (G : Nat → Int32) (k : Nat) (F : Nat → Int32) : Prop :=
  (∀ i, i < 36 ∨ (51 ≤ i ∧ i < 1729) → F i = f0 i) ∧
  (∀ u, u < 5 → k ≤ u → F (41 + u) = f0 (41 + u) ∧ F (46 + u) = f0 (46 + u) ∧ (¬ u = s → F (36 + u) = f0 (36 + u))) ∧
  (∀ u, u < k → (G u = 0 → F (41 + u) = nI s ∧ F (46 + u) = e ∧ t.toInt ≤ (F (36 + u)).toInt) ∧ (¬ G u = 0 → F (41 + u) = f0 (41 + u) ∧ F (46 + u) = f0 (46 + u))) ∧
  (∀ u, u < 5 → (f0 (36 + u)).toInt ≤ (F (36 + u)).toInt) ∧ t.toInt ≤ (F (36 + s)).toInt
theorem e1_eli {Xm : zM × Int32} {f0 G : Nat → Int32} (hs : s < 5) (hv : v < 5) (hI : ELI s t e f0 G v (Xm.1.1 (20, 0, 0))) (hG : m_at Xm.1 s v t = G v) :
    ELI s t e f0 G (v + 1) ((m_e1 s t e v Xm).1.1 (20, 0, 0)) ∧ (m_e1 s t e v Xm).2 = (if G v = 0 then Xm.2 + 1 else Xm.2) := by
  obtain ⟨h1, h2, h3, h4, h5⟩ := hI
  obtain ⟨v1, v2, v3⟩ := h2 v hv (Nat.le_refl _)
  unfold m_e1
  rw [hG]
  by_cases e2 : G v = 2 ∧ q Xm.1 (36 + s) < q Xm.1 (36 + v)
  · have g0 : ¬ G v = 0 := by rw [e2.1]; decide
    have lt := e2.2
    rw [ni_lt] at lt
    rw [if_pos e2, if_neg g0]
    dsimp only
    rw [qs_f, qs_f]
    have k1 : ∀ u, ¬ u = s → up (up (Xm.1.1 (20, 0, 0)) (1729 + v) (G v)) (36 + s) (q Xm.1 (36 + v)) (36 + u) = Xm.1.1 (20, 0, 0) (36 + u) ∨ 1000 < u := fun u hu => by
      by_cases z : 1000 < u
      · exact Or.inr z
      · left; rw [up_n (by omega), up_n (by omega)]
    have ks : up (up (Xm.1.1 (20, 0, 0)) (1729 + v) (G v)) (36 + s) (q Xm.1 (36 + v)) (36 + s) = Xm.1.1 (20, 0, 0) (36 + v) := up_e _ _ _
    have k36 : ∀ u, u < 5 → (Xm.1.1 (20, 0, 0) (36 + u)).toInt ≤ (up (up (Xm.1.1 (20, 0, 0)) (1729 + v) (G v)) (36 + s) (q Xm.1 (36 + v)) (36 + u)).toInt := fun u hu => by
      by_cases z : u = s
      · subst z; rw [ks]; exact Int.le_of_lt lt
      · rw [up_n (by omega), up_n (by omega)]; exact Int.le_refl _
    refine ⟨⟨fun i hi => ?_, fun u hu hk => ?_, fun u hu => ?_, fun u hu => ?_, ?_⟩, rfl⟩
    · rw [up_n (by omega), up_n (by omega)]; exact h1 i hi
    · obtain ⟨a, b, c⟩ := h2 u hu (by omega)
      refine ⟨by rw [up_n (by omega), up_n (by omega)]; exact a, by rw [up_n (by omega), up_n (by omega)]; exact b, fun z => ?_⟩
      rw [up_n (by omega), up_n (by omega)]; exact c z
    · rw [up_n (by omega), up_n (by omega), up_n (by omega), up_n (by omega)]
      by_cases z : u = v
      · subst z
        exact ⟨fun x => absurd x g0, fun _ => ⟨v1, v2⟩⟩
      · obtain ⟨a, b⟩ := h3 u (by omega)
        refine ⟨fun x => ?_, b⟩
        obtain ⟨a1, a2, a3⟩ := a x
        have := k36 u (by omega)
        exact ⟨a1, a2, by omega⟩
    · have := k36 u hu
      have := h4 u hu
      omega
    · have := k36 s hs
      omega
  · rw [if_neg e2]
    by_cases g0 : G v = 0
    · rw [if_pos g0, if_pos g0]
      dsimp only
      rw [qs_f, qs_f, qs_f, qs_f]
      have mi := mx_i t (q Xm.1 (36 + v))
      have k36 : ∀ u, u < 5 → up (up (up (up (Xm.1.1 (20, 0, 0)) (1729 + v) (G v)) (36 + v) (mx t (q Xm.1 (36 + v)))) (41 + v) (nI s)) (46 + v) e (36 + u) = if u = v then mx t (q Xm.1 (36 + v)) else Xm.1.1 (20, 0, 0) (36 + u) := fun u hu => by
        rw [up_n (by omega), up_n (by omega)]
        by_cases z : u = v
        · subst z; rw [up_e, if_pos rfl]
        · rw [if_neg z, up_n (by omega), up_n (by omega)]
      refine ⟨⟨fun i hi => ?_, fun u hu hk => ?_, fun u hu => ?_, fun u hu => ?_, ?_⟩, rfl⟩
      · rw [up_n (by omega), up_n (by omega), up_n (by omega), up_n (by omega)]; exact h1 i hi
      · obtain ⟨a, b, c⟩ := h2 u hu (by omega)
        rw [k36 u hu, if_neg (by omega)]
        refine ⟨by rw [up_n (by omega), up_n (by omega), up_n (by omega), up_n (by omega)]; exact a, by rw [up_n (by omega), up_n (by omega), up_n (by omega), up_n (by omega)]; exact b, c⟩
      · by_cases z : u = v
        · subst z
          refine ⟨fun _ => ⟨by rw [up_n (by omega), up_e], by rw [up_e], ?_⟩, fun x => absurd g0 x⟩
          rw [k36 u hv, if_pos rfl]
          omega
        · obtain ⟨a, b⟩ := h3 u (by omega)
          rw [k36 u (by omega), if_neg z, up_n (by omega), up_n (by omega), up_n (by omega), up_n (by omega), up_n (by omega), up_n (by omega), up_n (by omega), up_n (by omega)]
          exact ⟨a, b⟩
      · rw [k36 u hu]
        have := h4 u hu
        split
        · next z =>
          subst z
          rw [mx_i]
          have h9 : (f0 (36 + u)).toInt ≤ (q Xm.1 (36 + u)).toInt := this
          omega
        · exact this
      · rw [k36 s hs]
        split
        · omega
        · exact h5
    · rw [if_neg g0, if_neg g0]
      dsimp only
      rw [qs_f]
      refine ⟨⟨fun i hi => ?_, fun u hu hk => ?_, fun u hu => ?_, fun u hu => ?_, ?_⟩, rfl⟩
      · rw [up_n (by omega)]; exact h1 i hi
      · rw [up_n (by omega), up_n (by omega), up_n (by omega)]; exact h2 u hu (by omega)
      · rw [up_n (by omega), up_n (by omega), up_n (by omega)]
        by_cases z : u = v
        · subst z
          exact ⟨fun x => absurd x g0, fun _ => ⟨v1, v2⟩⟩
        · exact h3 u (by omega)
      · rw [up_n (by omega)]; exact h4 u hu
      · rw [up_n (by omega)]; exact h5
end EL
