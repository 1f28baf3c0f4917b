def ar (M Mm : zM) (c : Nat) : Prop := ∀ k, k < c → (M.1 (17, 0, 0) k = Mm.1 (25, 0, 0) (4 * k) ∧ 1 ≤ zz_ix (pno (M.1 (17, 0, 0) k))) ∧ ∀ j, j < zz_ix (pno (M.1 (17, 0, 0) k)) → M.1 (18, 0, 0) (3 * k + j) = Mm.1 (25, 0, 0) (4 * k + 1 + j)
def cu (M Mm : zM) (c w t : Nat) : Prop := M.1 (17, 0, 0) c = Mm.1 (25, 0, 0) (4 * c) ∧ zz_ix (pno (M.1 (17, 0, 0) c)) = w ∧ ∀ j, j < t → M.1 (18, 0, 0) (3 * c + j) = Mm.1 (25, 0, 0) (4 * c + 1 + j)
theorem pno_c (l : Int32) : (pno l = -1000 ∧ sc_no l = 0 ∧ zz_ix (pno l) = 0) ∨ (∃ w, 1 ≤ w ∧ w ≤ 3 ∧ pno l = nI w ∧ sc_no l = nI w ∧ zz_ix (pno l) = w ∧ pdg l = false ∧ ¬ l = 32 ∧ ¬ l = 59) := by
  unfold pno sc_no
  by_cases h3 : l = 104 ∨ l = 119
  · right
    refine ⟨3, by omega, by omega, ?_⟩
    rcases h3 with rfl | rfl <;> decide
  · by_cases h2 : l = 97 ∨ l = 114 ∨ l = 115 ∨ l = 99 ∨ l = 109
    · right
      refine ⟨2, by omega, by omega, ?_⟩
      rcases h2 with rfl | rfl | rfl | rfl | rfl <;> decide
    · by_cases h1 : l = 103 ∨ l = 98 ∨ l = 112
      · right
        refine ⟨1, by omega, by omega, ?_⟩
        rcases h1 with rfl | rfl | rfl <;> decide
      · left
        rw [if_neg h3, if_neg h2, if_neg h1, if_neg h1, if_neg h2, if_neg h3]
        decide
theorem pno_le (l : Int32) : zz_ix (pno l) ≤ 3 := by
  rcases pno_c l with ⟨_, _, h⟩ | ⟨w, _, h, _, _, e, _⟩ <;> omega
section PD
variable {T : Nat → Int32} {n c w : Nat} {Q : Option Nat × zM → Prop}
theorem q_nd {p : Nat} {M : zM} (hQ : ∀ M, Q (none, nd M) → Q (none, M)) (hp : p ≤ n) (hd : pdg (pb T n p) = false) (h : Q (cl T (n - p) p (nd M))) : Q (cl T (n - p) p M) := by
  by_cases z : p = n
  · subst z
    rw [cl_n] at h ⊢
    exact hQ M h
  · have hp : p < n := by omega
    rw [pb_lt hp] at hd
    rw [cl_s hp, tk_nd hd] at h
    rw [cl_s hp]
    exact h
theorem skp_pos {M : zM} (hn : n ≤ 100) (hp : mpos M ≤ n) (hT : M.1 (23, 0, 0) = T) : mpos (m_skp M n) = psk T n (n - mpos M) (mpos M) ∧ psk T n (n - mpos M) (mpos M) ≤ n ∧ mpos M ≤ psk T n (n - mpos M) (mpos M) := by
  have h := psk_ge (T := T) (n := n) (n - mpos M) (mpos M)
  refine ⟨?_, by omega, h.1⟩
  unfold m_skp mpos
  rw [zz_gs, if_pos ⟨rfl, rfl⟩, hT]
  exact zz_ixn (by show psk T n (n - mpos M) (mpos M) < _; omega)
theorem skp_o {M : zM} {r : zR} {i : Nat} (h : ¬ (r = (6, 0, 0) ∧ i = 10)) : (m_skp M n).1 r i = M.1 r i := by
  unfold m_skp; rw [zz_gs, if_neg h]
theorem skp_mps {M : zM} (hn : n ≤ 100) (h : mps M T n c) : mps (m_skp M n) T n c ∧ mpos (m_skp M n) = psk T n (n - mpos M) (mpos M) ∧ mpos M ≤ mpos (m_skp M n) ∧ ¬ pb T n (mpos (m_skp M n)) = 32 := by
  obtain ⟨h1, h2, h3, h4, h5⟩ := h
  obtain ⟨a1, a2, a3⟩ := skp_pos hn h5 h1
  refine ⟨⟨?_, ?_, ?_, ?_, by omega⟩, a1, by omega, ?_⟩
  · funext j; rw [skp_o (by simp), h1]
  · rw [skp_o (by simp)]; exact h2
  · rw [skp_o (by simp)]; exact h3
  · rw [a1]
    unfold m_skp
    rw [zz_gs, if_pos ⟨rfl, rfl⟩, h1]
  · rw [a1]; exact psk_nb _ _ (by omega)
theorem rn0_mps {M : zM} {t p' : Nat} (hn : n ≤ 100) (h : mps M T n c) (hp : (pds T n 3 (mpos M) 0).1 = p') (hp2 : p' ≤ n) : mps (m_rn0 M n t) T n c ∧ mpos (m_rn0 M n t) = p' := by
  obtain ⟨h1, h2, h3, h4, h5⟩ := h
  have e : mpos (m_rn0 M n t) = p' := by
    unfold m_rn0 mpos
    rw [zo (by simp), zz_gs, if_pos ⟨rfl, rfl⟩, h1]
    show zz_ix (nI (pds T n 3 (mpos M) 0).1) = p'
    rw [hp]; exact zz_ixn (by omega)
  refine ⟨⟨?_, ?_, ?_, ?_, by omega⟩, e⟩
  · funext j; unfold m_rn0; rw [zo (by simp), zo (by simp), h1]
  · unfold m_rn0; rw [zo (by simp), zz_gs, if_neg (by simp)]; exact h2
  · unfold m_rn0; rw [zo (by simp), zz_gs, if_neg (by simp)]; exact h3
  · rw [e]
    unfold m_rn0
    rw [zo (by simp), zz_gs, if_pos ⟨rfl, rfl⟩, h1]
    show nI (pds T n 3 (mpos M) 0).1 = _
    rw [hp]
theorem rn0_25 {M : zM} {t i : Nat} (hT : M.1 (23, 0, 0) = T) : (m_rn0 M n t).1 (25, 0, 0) i = if i = t then (pds T n 3 (mpos M) 0).2 else M.1 (25, 0, 0) i := by
  unfold m_rn0
  rw [zz_gs, hT]
  by_cases z : i = t
  · rw [if_pos ⟨rfl, z⟩, if_pos z]
  · rw [if_neg (fun y => z y.2), if_neg z, zo (by simp)]
theorem rdk (hn : n ≤ 100) (hc : c ≤ 33) (hw : w ≤ 3) (hQ : ∀ M, Q (none, nd M) → Q (none, M)) : ∀ (f t : Nat) (M Mm : zM), t + f = w → ps M c 1 w t 0 → mps Mm T n c → cu M Mm c w t → ar M Mm c → ¬ pb T n (mpos Mm) = 32 →
    ((m_rdk n c f (t + 1) Mm).1 = false → (m_rdk n c f (t + 1) Mm).2.1 (6, 0, 0) 10 = nI (mpos (m_rdk n c f (t + 1) Mm).2) → ∀ X, FL n X (mpos (m_rdk n c f (t + 1) Mm).2) → Q X) →
    ((m_rdk n c f (t + 1) Mm).1 = true → ∀ M', ps M' c 1 w w 0 → mps (m_rdk n c f (t + 1) Mm).2 T n c → cu M' (m_rdk n c f (t + 1) Mm).2 c w w → ar M' (m_rdk n c f (t + 1) Mm).2 c → ¬ pb T n (mpos (m_rdk n c f (t + 1) Mm).2) = 32 → mpos Mm + f ≤ mpos (m_rdk n c f (t + 1) Mm).2 → Q (cl T (n - mpos (m_rdk n c f (t + 1) Mm).2) (mpos (m_rdk n c f (t + 1) Mm).2) M')) →
    Q (cl T (n - mpos Mm) (mpos Mm) M)
  | 0, t, M, Mm, e, hp, hm, hu, ha, hb, _, k2 => by
    have e : t = w := by omega
    subst e
    exact k2 rfl M hp hm hu ha hb (Nat.le_refl _)
  | f + 1, t, M, Mm, e, hp, hm, hu, ha, hb, k1, k2 => by
    have hm0 := hm
    obtain ⟨hT, m5, m9, m10, mn5⟩ := hm0
    rw [m_rdk] at k1 k2
    rcases num_run (T := T) (M := M) hp (by omega) (by omega) hw mn5 with ⟨n1, n2⟩ | ⟨n1, n2, n3⟩
    · have hf : m_rnb Mm n = false := by
        unfold m_rnb
        rw [hT, n1, decide_eq_false (Nat.lt_irrefl _)]; rfl
      rw [hf] at k1
      simp only [Bool.false_eq_true, if_false] at k1
      have epos : mpos (m_rdn Mm n (4 * c + (t + 1))) = mpos Mm := by
        unfold m_rdn
        rw [hf]
        simp only [Bool.false_eq_true, if_false]
        exact (rn0_mps hn hm n1 mn5).2
      have e10 : (m_rdn Mm n (4 * c + (t + 1))).1 (6, 0, 0) 10 = nI (mpos (m_rdn Mm n (4 * c + (t + 1)))) := by
        unfold m_rdn
        rw [hf]
        simp only [Bool.false_eq_true, if_false]
        exact (rn0_mps hn hm n1 mn5).1.2.2.2.1
      rw [epos] at k1 e10
      refine k1 trivial e10 _ ?_
      obtain ⟨h5, h7, h8, h9, h10⟩ := hp
      have h7n : ¬ M.1 (2, 0, 0) 7 = 0 := by rw [h7]; decide
      by_cases z : mpos Mm = n
      · right
        rw [z, cl_n]
        exact ⟨rfl, h7n, rfl⟩
      · left
        have hp : mpos Mm < n := by omega
        rw [pb_lt hp] at n2 hb
        have e0 : (sc_tk M (T (mpos Mm))).1 = 0 := by
          unfold sc_tk
          rw [if_neg (pdg_f n2), if_neg hb]
          have g7 : ¬ (zz_set M (2, 0, 0) 10 0).1 (2, 0, 0) 7 = 0 := by rw [zz_gs, if_neg (by simp)]; exact h7n
          by_cases y : T (mpos Mm) = 59
          · rw [if_pos y]
            unfold sc_ec
            rw [if_pos (Or.inr ?_)]
            rw [zz_gs, if_neg (by simp), zz_gs, if_neg (by simp), h9, h8, ni_ltn (by omega) (by omega)]
            omega
          · rw [if_neg y]
            unfold sc_bc
            rw [if_pos (Or.inl g7)]
        rw [cl_s hp, if_pos e0]
    · rcases n3 with ⟨n3, n4⟩ | ⟨n3, g, n4⟩
      · have hf : m_rnb Mm n = false := by
          unfold m_rnb
          rw [hT, n3]; simp
        rw [hf] at k1
        simp only [Bool.false_eq_true, if_false] at k1
        have epos : mpos (m_rdn Mm n (4 * c + (t + 1))) = (pds T n 3 (mpos Mm) 0).1 := by
          unfold m_rdn
          rw [hf]
          simp only [Bool.false_eq_true, if_false]
          exact (rn0_mps hn hm rfl n2).2
        have e10 : (m_rdn Mm n (4 * c + (t + 1))).1 (6, 0, 0) 10 = nI (mpos (m_rdn Mm n (4 * c + (t + 1)))) := by
          unfold m_rdn
          rw [hf]
          simp only [Bool.false_eq_true, if_false]
          exact (rn0_mps hn hm rfl n2).1.2.2.2.1
        rw [epos] at k1 e10
        exact k1 trivial e10 _ n4
      · have hf : m_rnb Mm n = true := by
          unfold m_rnb
          rw [hT, n3, decide_eq_true n1]; rfl
        rw [hf] at k1 k2
        simp only [if_true] at k1 k2
        obtain ⟨q1, q2⟩ := rn0_mps (t := 4 * c + (t + 1)) hn hm rfl n2
        obtain ⟨s1, s2, s3, s4⟩ := skp_mps hn q1
        have edn : m_rdn Mm n (4 * c + (t + 1)) = m_skp (m_rn0 Mm n (4 * c + (t + 1))) n := by
          unfold m_rdn; rw [hf]; simp only [if_true]
        rw [edn] at k1 k2
        rw [q2] at s2 s3
        rw [n4]
        refine q_nd hQ n2 n3 ?_
        have hnp := num_ps (g := g) (v := (pds T n 3 (mpos Mm) 0).2) hp
        have p0 : ps (nd (numM M c t g (pds T n 3 (mpos Mm) 0).2)) c 1 w (t + 1) 0 := by
          obtain ⟨x5, x7, x8, x9, x10⟩ := hnp
          unfold nd ps
          rw [zz_gs, if_neg (by simp), zz_gs, if_neg (by simp), zz_gs, if_neg (by simp), zz_gs, if_neg (by simp), zz_gs, if_pos ⟨rfl, rfl⟩]
          exact ⟨x5, x7, x8, x9, rfl⟩
        rw [skip_run (n - (pds T n 3 (mpos Mm) 0).1) _ (by omega) p0.2.2.2.2, ← s2]
        have c17 : ∀ i, (nd (numM M c t g (pds T n 3 (mpos Mm) 0).2)).1 (17, 0, 0) i = M.1 (17, 0, 0) i := fun i => by
          unfold nd; rw [zo (by simp), num_o (by simp) (by simp)]
        have c18 : ∀ i, ¬ i = 3 * c + t → (nd (numM M c t g (pds T n 3 (mpos Mm) 0).2)).1 (18, 0, 0) i = M.1 (18, 0, 0) i := fun i hi => by
          unfold nd; rw [zo (by simp), num_o (by simp) (fun z => hi z.2)]
        have m25 : ∀ i, (m_skp (m_rn0 Mm n (4 * c + (t + 1))) n).1 (25, 0, 0) i = if i = 4 * c + (t + 1) then (pds T n 3 (mpos Mm) 0).2 else Mm.1 (25, 0, 0) i := fun i => by
          rw [skp_o (by simp), rn0_25 hT]
        refine rdk hn hc hw hQ f (t + 1) _ _ (by omega) p0 s1 ⟨?_, ?_, fun j hj => ?_⟩ (fun k hk => ?_) s4 k1 (fun a M' b1 b2 b3 b4 b5 b6 => k2 a M' b1 b2 b3 b4 b5 (by omega))
        · rw [c17, m25, if_neg (by omega)]; exact hu.1
        · rw [c17]; exact hu.2.1
        · by_cases z : j = t
          · subst z
            rw [m25, if_pos (by omega)]
            unfold nd
            rw [zo (by simp), num_18]
          · rw [c18 _ (by omega), m25, if_neg (by omega)]
            exact hu.2.2 j (by omega)
        · obtain ⟨b1, b2⟩ := ha k hk
          refine ⟨by rw [c17, m25, if_neg (by omega)]; exact b1, fun j hj => ?_⟩
          rw [c17] at hj
          have := pno_le (M.1 (17, 0, 0) k)
          rw [c18 _ (by omega), m25, if_neg (by omega)]
          exact b2 j hj
theorem rdc {t p : Nat} {M Mm : zM} (hn : n ≤ 100) (hQ : ∀ M, Q (none, nd M) → Q (none, M)) (hp : ps M c 0 w t 0) (hm : mps Mm T n c) (ha : ar M Mm c) (hb : ¬ pb T n (mpos Mm) = 32) (hlt : mpos Mm < n) (h3 : 3 * c ≤ mpos Mm)
    (k1 : (m_rdc Mm n).1 = false → (m_rdc Mm n).2.1 (6, 0, 0) 10 = nI (mpos (m_rdc Mm n).2) → ∀ X, FL n X (mpos (m_rdc Mm n).2) → Q X)
    (k2 : (m_rdc Mm n).1 = true → ∀ M' w' t', ps M' (c + 1) 0 w' t' 0 → mps (m_rdc Mm n).2 T n (c + 1) → ar M' (m_rdc Mm n).2 (c + 1) → ¬ pb T n (mpos (m_rdc Mm n).2) = 32 → mpos Mm + 3 ≤ mpos (m_rdc Mm n).2 → Q (cl T (n - mpos (m_rdc Mm n).2) (mpos (m_rdc Mm n).2) M')) :
    Q (cl T (n - mpos Mm) (mpos Mm) M) := by
  have hm0 := hm
  obtain ⟨hT, m5, m9, m10, mn5⟩ := hm0
  obtain ⟨h5, h7, h8, h9, h10⟩ := hp
  have h7z : M.1 (2, 0, 0) 7 = 0 := h7
  have hmc : mcal Mm = c := by unfold mcal; rw [m9]; exact zz_ixn (by omega)
  have hpb := pb_lt (T := T) hlt
  rw [hpb] at hb
  unfold m_rdc at k1 k2
  rw [hT, hpb] at k1 k2
  rcases pno_c (T (mpos Mm)) with ⟨e1, e2, _⟩ | ⟨w2, w1, w3, e1, e2, e3, e4, e5, e6⟩
  · rw [if_pos e1] at k1
    refine k1 rfl m10 _ (Or.inl ?_)
    have e0 : (sc_tk M (T (mpos Mm))).1 = 0 := by
      by_cases z : pdg (T (mpos Mm)) = true
      · rw [tk_d z]
        unfold sc_td
        rw [if_pos (Or.inl h7z)]
      · unfold sc_tk
        rw [if_neg (pdg_f (by simpa using z)), if_neg hb]
        have g7 : (zz_set M (2, 0, 0) 10 0).1 (2, 0, 0) 7 = 0 := by rw [zz_gs, if_neg (by simp)]; exact h7z
        by_cases y : T (mpos Mm) = 59
        · rw [if_pos y]
          unfold sc_ec
          rw [if_pos (Or.inl g7)]
        · rw [if_neg y]
          unfold sc_bc
          rw [if_pos (Or.inr (Or.inl e2))]
    rw [cl_s hlt, if_pos e0]
  · have en : ¬ pno (T (mpos Mm)) = -1000 := by
      rw [e1]; exact ne_m1000 (by omega)
    rw [if_neg en] at k1 k2
    obtain ⟨B, hB⟩ : ∃ B, B = zz_set (zz_set (zz_set (zz_set (nd M) (2, 0, 0) 8 (nI w2)) (17, 0, 0) c (T (mpos Mm))) (2, 0, 0) 9 0) (2, 0, 0) 7 1 := ⟨_, rfl⟩
    have sB : cl T (n - mpos Mm) (mpos Mm) M = cl T (n - (mpos Mm + 1)) (mpos Mm + 1) B := by
      have e : sc_tk M (T (mpos Mm)) = (1, B) := by
        unfold sc_tk
        rw [if_neg (pdg_f e4), if_neg e5, if_neg e6]
        unfold sc_bc
        have g5 : (zz_set M (2, 0, 0) 10 0).1 (2, 0, 0) 5 = nI c := by rw [zz_gs, if_neg (by simp)]; exact h5
        have g7 : (zz_set M (2, 0, 0) 10 0).1 (2, 0, 0) 7 = 0 := by rw [zz_gs, if_neg (by simp)]; exact h7z
        rw [g5, g7, e2, if_neg, zz_ixn (by omega), hB]
        · rfl
        · rw [show (34 : Int32) = nI 34 from rfl, show (0 : Int32) = nI 0 from rfl, i_eq (by omega) (by omega), i_eq (by omega) (by omega), ni_ltn (by omega) (by omega)]
          omega
      rw [cl_s hlt, e, if_neg (show ¬ (1 : Int32) = 0 by decide)]
    have pB : ps B c 1 w2 0 0 := by
      rw [hB]
      unfold ps nd
      simp [zz_gs, h5]
      decide
    have B17 : ∀ i, B.1 (17, 0, 0) i = if i = c then T (mpos Mm) else M.1 (17, 0, 0) i := fun i => by
      rw [hB, zo (by simp), zo (by simp), zz_gs]
      by_cases z : i = c
      · rw [if_pos ⟨rfl, z⟩, if_pos z]
      · rw [if_neg (fun y => z y.2), if_neg z, zo (by simp)]
        unfold nd; rw [zo (by simp)]
    have B18 : ∀ i, B.1 (18, 0, 0) i = M.1 (18, 0, 0) i := fun i => by
      rw [hB, zo (by simp), zo (by simp), zo (by simp), zo (by simp)]
      unfold nd; rw [zo (by simp)]
    -- the reference
    have z1 : mps (zz_set (zz_set Mm (25, 0, 0) (4 * c) (T (mpos Mm))) (6, 0, 0) 10 (nI (mpos Mm + 1))) T n c ∧ mpos (zz_set (zz_set Mm (25, 0, 0) (4 * c) (T (mpos Mm))) (6, 0, 0) 10 (nI (mpos Mm + 1))) = mpos Mm + 1 := by
      have e : mpos (zz_set (zz_set Mm (25, 0, 0) (4 * c) (T (mpos Mm))) (6, 0, 0) 10 (nI (mpos Mm + 1))) = mpos Mm + 1 := by
        show zz_ix ((zz_set _ _ _ _).1 (6, 0, 0) 10) = _
        rw [zz_gs, if_pos ⟨rfl, rfl⟩]; exact zz_ixn (by omega)
      refine ⟨⟨?_, ?_, ?_, ?_, by omega⟩, e⟩
      · funext j; rw [zo (by simp), zo (by simp), hT]
      · rw [zz_gs, if_neg (by simp), zo (by simp)]; exact m5
      · rw [zz_gs, if_neg (by simp), zo (by simp)]; exact m9
      · rw [e, zz_gs, if_pos ⟨rfl, rfl⟩]
    obtain ⟨z1, z2⟩ := z1
    obtain ⟨s1, s2, s3, s4⟩ := skp_mps hn z1
    have e0 : m_rc0 Mm n = m_skp (zz_set (zz_set Mm (25, 0, 0) (4 * c) (T (mpos Mm))) (6, 0, 0) 10 (nI (mpos Mm + 1))) n := by
      unfold m_rc0; rw [hmc, hT, hpb]
    have eR : m_rcR Mm n = m_rdk n c w2 1 (m_rc0 Mm n) := by
      unfold m_rcR; rw [hmc, hT, hpb, e3]
    rw [← e0] at s1 s2 s3 s4
    rw [z2] at s2 s3
    rw [sB, skip_run (n - (mpos Mm + 1)) _ (by omega) pB.2.2.2.2, ← s2]
    have m25 : ∀ i, (m_rc0 Mm n).1 (25, 0, 0) i = if i = 4 * c then T (mpos Mm) else Mm.1 (25, 0, 0) i := fun i => by
      rw [e0, skp_o (by simp), zo (by simp), zz_gs]
      by_cases z : i = 4 * c
      · rw [if_pos ⟨rfl, z⟩, if_pos z]
      · rw [if_neg (fun y => z y.2), if_neg z]
    have aB : ar B (m_rc0 Mm n) c := fun k hk => by
      obtain ⟨b1, b2⟩ := ha k hk
      refine ⟨by rw [B17, if_neg (by omega), m25, if_neg (by omega)]; exact b1, fun j hj => ?_⟩
      rw [B17, if_neg (by omega)] at hj
      have := pno_le (M.1 (17, 0, 0) k)
      rw [B18, m25, if_neg (by omega)]
      exact b2 j hj
    have uB : cu B (m_rc0 Mm n) c w2 0 := ⟨by rw [B17, if_pos rfl, m25, if_pos rfl], by rw [B17, if_pos rfl]; exact e3, fun j hj => absurd hj (by omega)⟩
    rw [eR] at k1 k2
    refine rdk hn (by omega) w3 hQ w2 0 B (m_rc0 Mm n) (by omega) pB s1 uB aB s4 (fun b b10 X hX => ?_) (fun b M' q1 q2 q3 q4 q5 q6 => ?_)
    · rw [if_pos b] at k1
      exact k1 rfl b10 X hX
    · generalize m_rdk n c w2 1 (m_rc0 Mm n) = R at *
      have bt : ¬ R.1 = false := by rw [b]; simp
      rw [if_neg bt] at k1 k2
      obtain ⟨x5, x7, x8, x9, x10⟩ := q1
      have x7n : ¬ M'.1 (2, 0, 0) 7 = 0 := by rw [x7]; decide
      by_cases hs : pb T n (mpos R.2) = 59
      · rw [if_neg (fun z => z hs)] at k2
        have hl3 : mpos R.2 < n := by
          by_cases z : mpos R.2 < n
          · exact z
          · unfold pb at hs; rw [if_neg z] at hs; exact absurd hs (by decide)
        obtain ⟨E, hE⟩ : ∃ E, E = zz_set (zz_set (nd M') (2, 0, 0) 7 0) (2, 0, 0) 5 (nI (c + 1)) := ⟨_, rfl⟩
        have sE : cl T (n - mpos R.2) (mpos R.2) M' = cl T (n - (mpos R.2 + 1)) (mpos R.2 + 1) E := by
          have e : sc_tk M' (T (mpos R.2)) = (1, E) := by
            rw [← pb_lt (T := T) hl3, hs]
            unfold sc_tk
            rw [if_neg (by decide), if_neg (by decide), if_pos rfl]
            unfold sc_ec
            have g5 : (zz_set (zz_set M' (2, 0, 0) 10 0) (2, 0, 0) 7 0).1 (2, 0, 0) 5 = nI c := by rw [zz_gs, if_neg (by simp), zz_gs, if_neg (by simp)]; exact x5
            have g55 : (zz_set M' (2, 0, 0) 10 0).1 (2, 0, 0) 5 = nI c := by rw [zz_gs, if_neg (by simp)]; exact x5
            rw [if_neg, g55, nI_1, hE]
            · rfl
            · rw [zz_gs, if_neg (by simp), zz_gs, if_neg (by simp), zz_gs, if_neg (by simp), x9, x8, ni_ltn (by omega) (by omega)]
              rintro (z | z)
              · exact x7n z
              · omega
          rw [cl_s hl3, e, if_neg (show ¬ (1 : Int32) = 0 by decide)]
        have pE : ps E (c + 1) 0 w2 w2 0 := by
          rw [hE]
          unfold ps nd
          simp [zz_gs, x8, x9]
          decide
        have q2' := q2
        obtain ⟨r1, r2, r3, r4, r5⟩ := q2'
        have y1 : mps (zz_set R.2 (6, 0, 0) 10 (nI (mpos R.2 + 1))) T n c ∧ mpos (zz_set R.2 (6, 0, 0) 10 (nI (mpos R.2 + 1))) = mpos R.2 + 1 := by
          have e : mpos (zz_set R.2 (6, 0, 0) 10 (nI (mpos R.2 + 1))) = mpos R.2 + 1 := by
            show zz_ix ((zz_set _ _ _ _).1 (6, 0, 0) 10) = _
            rw [zz_gs, if_pos ⟨rfl, rfl⟩]; exact zz_ixn (by omega)
          refine ⟨⟨?_, ?_, ?_, ?_, by omega⟩, e⟩
          · funext j; rw [zo (by simp), r1]
          · rw [zz_gs, if_neg (by simp)]; exact r2
          · rw [zz_gs, if_neg (by simp)]; exact r3
          · rw [e, zz_gs, if_pos ⟨rfl, rfl⟩]
        obtain ⟨y1, y2⟩ := y1
        obtain ⟨t1, t2, t3, t4⟩ := skp_mps hn y1
        rw [y2] at t2 t3
        have hfin : mpos (zz_set (m_skp (zz_set R.2 (6, 0, 0) 10 (nI (mpos R.2 + 1))) n) (6, 0, 0) 9 (nI (mcal Mm + 1))) = mpos (m_skp (zz_set R.2 (6, 0, 0) 10 (nI (mpos R.2 + 1))) n) := by
          show zz_ix ((zz_set _ _ _ _).1 (6, 0, 0) 10) = _
          rw [zz_gs, if_neg (by simp)]
        have k3 := k2 rfl E w2 w2 pE
        dsimp only at k3
        rw [hfin] at k3
        rw [sE, skip_run (n - (mpos R.2 + 1)) _ (by omega) pE.2.2.2.2, ← t2]
        have E17 : ∀ i, E.1 (17, 0, 0) i = M'.1 (17, 0, 0) i := fun i => by
          rw [hE, zo (by simp), zo (by simp)]; unfold nd; rw [zo (by simp)]
        have E18 : ∀ i, E.1 (18, 0, 0) i = M'.1 (18, 0, 0) i := fun i => by
          rw [hE, zo (by simp), zo (by simp)]; unfold nd; rw [zo (by simp)]
        have F25 : ∀ i, (zz_set (m_skp (zz_set R.2 (6, 0, 0) 10 (nI (mpos R.2 + 1))) n) (6, 0, 0) 9 (nI (mcal Mm + 1))).1 (25, 0, 0) i = R.2.1 (25, 0, 0) i := fun i => by
          rw [zo (by simp), skp_o (by simp), zo (by simp)]
        refine k3 ?_ (fun k hk => ?_) t4 (by omega)
        · obtain ⟨u1, u2, u3, u4, u5⟩ := t1
          refine ⟨?_, ?_, ?_, ?_, by rw [hfin]; exact u5⟩
          · funext j; rw [zo (by simp), u1]
          · rw [zz_gs, if_neg (by simp)]; exact u2
          · rw [zz_gs, if_pos ⟨rfl, rfl⟩, hmc]
          · rw [hfin, zz_gs, if_neg (by simp)]; exact u4
        · rw [F25, E17]
          by_cases z : k = c
          · subst z
            obtain ⟨v1, v2, v3⟩ := q3
            refine ⟨⟨v1, by rw [v2]; exact w1⟩, fun j hj => ?_⟩
            rw [v2] at hj
            rw [E18, F25]
            exact v3 j hj
          · obtain ⟨v1, v2⟩ := q4 k (by omega)
            refine ⟨v1, fun j hj => ?_⟩
            rw [E18, F25]
            exact v2 j hj
      · rw [if_pos hs] at k1
        refine k1 rfl q2.2.2.2.1 _ ?_
        obtain ⟨r1, r2, r3, r4, r5⟩ := q2
        by_cases z : mpos R.2 = n
        · right
          show (cl T (n - mpos R.2) (mpos R.2) M').1 = none ∧ ¬ (cl T (n - mpos R.2) (mpos R.2) M').2.1 (2, 0, 0) 7 = 0 ∧ mpos R.2 = n
          rw [z, cl_n]
          exact ⟨rfl, x7n, rfl⟩
        · left
          have hp : mpos R.2 < n := by omega
          rw [pb_lt hp] at q5 hs
          have e0 : (sc_tk M' (T (mpos R.2))).1 = 0 := by
            by_cases y : pdg (T (mpos R.2)) = true
            · rw [tk_d y]
              unfold sc_td
              rw [if_pos (Or.inr (Or.inl ⟨x10, by rw [x9, x8]⟩))]
            · unfold sc_tk
              rw [if_neg (pdg_f (by simpa using y)), if_neg q5, if_neg hs]
              unfold sc_bc
              rw [if_pos (Or.inl (by rw [zz_gs, if_neg (by simp)]; exact x7n))]
          show (cl T (n - mpos R.2) (mpos R.2) M').1 = some (mpos R.2)
          rw [cl_s hp, if_pos e0]
end PD
