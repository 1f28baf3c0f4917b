def tx (r : zR) : Prop := r.1 = 2 ∨ r.1 = 6 ∨ (16 ≤ r.1 ∧ r.1 ≤ 19) ∨ (23 ≤ r.1 ∧ r.1 ≤ 25)
section TX
variable {d : Int} {n k : Nat} {M M1 M2 : zM} {l i : Int32}
theorem INV_t (I : INV d n M) (hM : ∀ r i, ¬ tx r → M2.1 r i = M.1 r i) (h6 : M2.1 (6, 0, 0) 3 = M.1 (6, 0, 0) 3) (ht : ∃ l, txt M2 l) (hr : ∃ r, rsl M2 r) : INV d n M2 := by
  obtain ⟨a, b, c, _, _⟩ := I
  have e20 : M2.1 (20, 0, 0) = M.1 (20, 0, 0) := by funext i; exact hM _ _ (by unfold tx; simp)
  refine ⟨?_, yD_c b (hM _ _ (by unfold tx; simp)) h6, fun k hk => ?_, ht, hr⟩
  · rw [e20]
    exact Ok_cc a (Nat.le_refl _) (fun r i _ h1 h2 h3 => hM r i (by unfold tx; omega)) (fun _ _ => rfl)
  · obtain ⟨x, y⟩ := c k hk
    rw [hM _ _ (by unfold tx; simp), hM _ _ (by unfold tx; simp)]
    exact ⟨x, fun z => snp_c (Nat.le_refl _) hk (y z) (fun r i _ h1 h2 h3 => hM r i (by unfold tx; omega)) (fun i _ _ => hM _ _ (by unfold tx; simp))⟩
theorem tx_n {r r0 : zR} (h : ¬ tx r) (h0 : tx r0) : ¬ r = r0 := fun z => h (by rw [z]; exact h0)
theorem t_type (I : INV d n M) (ht : txt M k) : (L_type M k l).1 = (m_type (L_type M k l).2 k l).1 ∧ INV d (n + 34) (m_type (L_type M k l).2 k l).2 := by
  unfold L_type m_type
  by_cases h1 : l < 0 ∨ 127 < l
  · rw [if_pos h1]
    dsimp only
    rw [if_pos h1]
    exact ⟨rfl, INV_up I (by omega)⟩
  · rw [if_neg h1]
    by_cases h2 : k < 100
    · rw [if_pos h2]
      dsimp only
      rw [if_neg h1, if_neg (by omega)]
      refine ⟨rfl, INV_up (INV_t I (fun r i h => ?_) ?_ ⟨k + 1, by omega, ?_, ?_, fun i hi => ?_⟩ ?_) (by omega)⟩
      · unfold sc_ap
        rw [zo (tx_n h (by unfold tx; simp)), zo (tx_n h (by unfold tx; simp)), zo (tx_n h (by unfold tx; simp)), zo (tx_n h (by unfold tx; simp))]
      · unfold sc_ap
        rw [zz_gs, if_neg (by simp), zo (by simp), zo (by simp), zo (by simp)]
      · unfold sc_ap
        rw [zo (by simp), zo (by simp), zz_gs, if_pos ⟨rfl, rfl⟩]
      · rw [zz_gs, if_pos ⟨rfl, rfl⟩]
      · unfold sc_ap
        rw [zo (by simp), zo (by simp), zo (by simp), zz_gs, zo (by simp), zz_gs, zo (by simp), zo (by simp)]
        by_cases z : i = k
        · rw [if_pos ⟨rfl, z⟩, if_pos ⟨rfl, z⟩]
        · rw [if_neg (fun y => z y.2), if_neg (fun y => z y.2)]
          exact ht.2.2.2 i (by omega)
      · obtain ⟨_, _, _, _, ⟨r, r1, r2, r3, r4⟩⟩ := I
        refine ⟨r, r1, ?_, ?_, fun i hi => ?_⟩
        · unfold sc_ap
          rw [zo (by simp), zo (by simp), zz_gs, if_neg (by simp), zo (by simp)]; exact r2
        · unfold sc_ap
          rw [zz_gs, if_neg (by simp), zo (by simp), zo (by simp), zo (by simp)]; exact r3
        · unfold sc_ap
          rw [zo (by simp), zo (by simp), zo (by simp), zo (by simp), zo (by simp), zo (by simp), zo (by simp), zo (by simp)]; exact r4 i hi
    · rw [if_neg h2]
      dsimp only
      rw [if_neg h1, if_pos (by have := ht.1; omega)]
      exact ⟨rfl, INV_up I (by omega)⟩
theorem t_clear (I : INV d n M) : M.1 (2, 0, 0) 4 = (zz_set M (2, 0, 0) 4 0).1 (6, 0, 0) 5 ∧ INV d (n + 34) (zz_set (zz_set M (2, 0, 0) 4 0) (6, 0, 0) 5 0) := by
  obtain ⟨l, t1, t2, t3, t4⟩ := I.2.2.2.1
  refine ⟨by rw [zo (by simp), t2, t3], INV_up (INV_t I (fun r i h => ?_) ?_ ⟨0, by omega, ?_, ?_, fun i hi => absurd hi (Nat.not_lt_zero _)⟩ ?_) (by omega)⟩
  · rw [zo (tx_n h (by unfold tx; simp)), zo (tx_n h (by unfold tx; simp))]
  · rw [zz_gs, if_neg (by simp), zo (by simp)]
  · rw [zo (by simp), zz_gs, if_pos ⟨rfl, rfl⟩]; rfl
  · rw [zz_gs, if_pos ⟨rfl, rfl⟩]; rfl
  · obtain ⟨_, _, _, _, ⟨r, r1, r2, r3, r4⟩⟩ := I
    refine ⟨r, r1, ?_, ?_, fun i hi => ?_⟩
    · rw [zo (by simp), zz_gs, if_neg (by simp)]; exact r2
    · rw [zz_gs, if_neg (by simp), zo (by simp)]; exact r3
    · rw [zo (by simp), zo (by simp), zo (by simp), zo (by simp)]; exact r4 i hi
theorem q_result (I : INV d n M) : L_result M i = m_result M i := by
  obtain ⟨r, r1, r2, r3, r4⟩ := I.2.2.2.2
  unfold L_result m_result
  rw [r2, r3]
  by_cases h1 : i < 0
  · rw [if_pos h1, if_pos h1]
  · rw [if_neg h1, if_neg h1]
    by_cases h2 : i < nI r
    · obtain ⟨x, hx, ex⟩ := ni_ofr rfl (by omega) h1 h2
      rw [if_pos ⟨h2, by rw [ex, show (34 : Int32) = nI 34 from rfl, ni_ltn (by omega) (by omega)]; omega⟩, if_pos h2, ni_ix ex (by omega)]
      exact r4 x hx
    · rw [if_neg (fun z => h2 z.1), if_neg h2]
/-- what a parsing of the reference leaves alone -/
def prf (M M' : zM) : Prop := ∀ r i, ¬ r = (25, 0, 0) → ¬ (r = (6, 0, 0) ∧ (i = 9 ∨ i = 10)) → M'.1 r i = M.1 r i
theorem prf_rfl : prf M M := fun _ _ _ _ => rfl
theorem prf_s {p : Nat} {v : Int32} (h : prf M M1) (hp : p = 9 ∨ p = 10) : prf M (zz_set M1 (6, 0, 0) p v) := fun r i a b => by
  rw [zz_gs, if_neg (fun z => b ⟨z.1, by rw [z.2]; exact hp⟩)]; exact h r i a b
theorem prf_c {p : Nat} {v : Int32} (h : prf M M1) : prf M (zz_set M1 (25, 0, 0) p v) := fun r i a b => by
  rw [zo a]; exact h r i a b
theorem prf_k (h : prf M M1) : prf M (m_skp M1 k) := prf_s h (Or.inr rfl)
theorem prf_dn {t : Nat} (h : prf M M1) : prf M (m_rdn M1 k t) := by
  unfold m_rdn m_rn0
  split
  · exact prf_k (prf_c (prf_s h (Or.inr rfl)))
  · exact prf_c (prf_s h (Or.inr rfl))
theorem prf_dk {c : Nat} : ∀ (f t : Nat) (M1 : zM), prf M M1 → prf M (m_rdk k c f t M1).2
  | 0, _, _, h => h
  | f + 1, t, M1, h => by
    rw [m_rdk]
    split
    · exact prf_dk f (t + 1) _ (prf_dn h)
    · exact prf_dn h
theorem prf_dc (h : prf M M1) : prf M (m_rdc M1 k).2 := by
  have h0 : prf M (m_rcR M1 k).2 := prf_dk _ _ _ (prf_k (prf_s (prf_c h) (Or.inr rfl)))
  unfold m_rdc
  split
  · exact h
  · split
    · exact h0
    · split
      · exact h0
      · exact prf_s (prf_k (prf_s h0 (Or.inr rfl))) (Or.inl rfl)
theorem prf_l : ∀ (f : Nat) (M1 : zM), prf M M1 → prf M (m_rl k f M1).2
  | 0, _, h => h
  | f + 1, M1, h => by
    rw [m_rl]
    split
    · split
      · exact prf_l f _ (prf_dc h)
      · exact prf_dc h
    · exact h
theorem prf_P : prf M (m_rP M k).2 := prf_l _ _ (prf_k (prf_s (prf_s prf_rfl (Or.inr rfl)) (Or.inl rfl)))
theorem rit_fr {r : zR} {j : Nat} (ho : oc r j = true) (hr : ¬ r = (19, 0, 0)) : ∀ (c : Nat) (X : zM), (zz_it r_1 c X).1 r j = X.1 r j
  | 0, _ => rfl
  | c + 1, X => by
    rw [zz_it]
    unfold r_1
    rw [zo hr, L_mk_fr.2 _ _ ho]
    exact rit_fr ho hr c X
theorem pX_f : scf M (sc_pX M k).2 := sc_pl_f _ _ _ (scf_2 (scf_2 (scf_2 scf_rfl (by omega)) (by omega)) (by omega))
theorem run_o {r : zR} {j : Nat} (ho : oc r j = true) (h1 : ¬ r = (17, 0, 0)) (h2 : ¬ r = (18, 0, 0)) (h3 : ¬ r = (19, 0, 0)) (h4 : ¬ (r = (2, 0, 0) ∧ 5 ≤ j)) : (L_run M k).2.1 r j = M.1 r j := by
  have hp := (pX_f (M := M) (k := k)).2 r j h1 h2 (fun z => h4 ⟨z.1, z.2.1⟩)
  unfold L_run
  split
  · exact hp
  · dsimp only
    rw [zz_gs, if_neg (fun z => h4 ⟨z.1, by omega⟩)]
    unfold L_runQ
    rw [rit_fr ho h3]
    exact hp
theorem t_run (I : INV d n M) (ht : txt M k) (hn : n + 34 < 1000000) : (L_run M k).1 = (m_run (L_run M k).2 k).1 ∧ INV d (n + 34) (m_run (L_run M k).2 k).2 ∧
    ((m_rP (L_run M k).2 k).1 = true → ∀ j, j < mcal (m_rP (L_run M k).2 k).2 → mw (zz_it m_d1 j (m_rQ0 (L_run M k).2 k)) ∧ mdl (zz_it m_d1 j (m_rQ0 (L_run M k).2 k))) := by
  obtain ⟨k100, t2, t3, t4⟩ := ht
  have l6 : ∀ j, (L_run M k).2.1 (6, 0, 0) j = M.1 (6, 0, 0) j := fun j => run_o rfl (by simp) (by simp) (by simp) (by simp)
  have l23 : ∀ j, (L_run M k).2.1 (23, 0, 0) j = M.1 (23, 0, 0) j := fun j => run_o rfl (by simp) (by simp) (by simp) (by simp)
  have l20 : (L_run M k).2.1 (20, 0, 0) = M.1 (20, 0, 0) := by funext j; exact run_o rfl (by simp) (by simp) (by simp) (by simp)
  have hq := parse_q (M := M) (Mm := (L_run M k).2) (n := k) k100 (by rw [l6]; exact t3) (fun i hi => by rw [l23]; exact t4 i hi)
  have hpf := prf_P (M := (L_run M k).2) (k := k)
  have xf := pX_f (M := M) (k := k)
  have lo : ∀ r j, oc r j = true → ¬ r = (17, 0, 0) → ¬ r = (18, 0, 0) → ¬ r = (19, 0, 0) → ¬ (r = (2, 0, 0) ∧ 5 ≤ j) → (L_run M k).2.1 r j = M.1 r j := fun r j a b c e f => run_o a b c e f
  by_cases hb : (m_rP (L_run M k).2 k).1 = false
  · obtain ⟨q1, q2⟩ := hq.1 hb
    have hle : mpos (m_rP (L_run M k).2 k).2 ≤ k := by
      refine FL_le (T := M.1 (16, 0, 0)) k 0 (sc_p0 M) _ (by omega) ?_
      have e := cl_eq (T := M.1 (16, 0, 0)) k 0 (sc_p0 M) (fun j _ hj => by unfold sc_p0; rw [zo (by simp), zo (by simp), zo (by simp)])
      rw [← e]; exact q1
    have epr : sc_pr M k = nI (mpos (m_rP (L_run M k).2 k).2) := by
      unfold sc_pr
      rcases q1 with x | ⟨x, y, z⟩
      · rw [x]
      · rw [x]
        dsimp only
        rw [if_neg y, z]
    have ene : ¬ sc_pr M k = -1 := by
      rw [epr, ni_eq, ni_n (by omega)]
      rw [show (-1 : Int32).toInt = -1 by decide]
      omega
    have eL : L_run M k = (-2000 - sc_pr M k, (sc_pX M k).2) := by unfold L_run; rw [if_pos ene]
    have eM : m_run (L_run M k).2 k = (-2000 - (m_rP (L_run M k).2 k).2.1 (6, 0, 0) 10, (m_rP (L_run M k).2 k).2) := by unfold m_run; rw [if_pos hb]
    rw [eM]
    dsimp only
    refine ⟨?_, ?_, fun x => by rw [hb] at x; cases x⟩
    · rw [q2, ← epr, eL]
    · refine INV_up (INV_t I (fun r i h => ?_) ?_ ⟨k, k100, ?_, ?_, fun i hi => ?_⟩ ?_) (by omega)
      · rw [hpf r i (tx_n h (by unfold tx; simp)) (fun z => tx_n h (by unfold tx; simp) z.1), eL]
        exact xf.2 r i (tx_n h (by unfold tx; simp)) (tx_n h (by unfold tx; simp)) (fun z => tx_n h (by unfold tx; simp) z.1)
      · rw [hpf _ _ (by simp) (by simp), l6]
      · rw [hpf _ _ (by simp) (by simp), lo _ _ rfl (by simp) (by simp) (by simp) (by simp)]; exact t2
      · rw [hpf _ _ (by simp) (by simp), l6]; exact t3
      · rw [hpf _ _ (by simp) (by simp), hpf _ _ (by simp) (by simp), l23, lo _ _ rfl (by simp) (by simp) (by simp) (by simp)]; exact t4 i hi
      · obtain ⟨_, _, _, _, ⟨r, r1, r2, r3, r4⟩⟩ := I
        refine ⟨r, r1, ?_, ?_, fun i hi => ?_⟩
        · rw [hpf _ _ (by simp) (by simp), eL]
          exact (xf.2 _ _ (by simp) (by simp) (by simp)).trans r2
        · rw [hpf _ _ (by simp) (by simp), l6]; exact r3
        · rw [hpf _ _ (by simp) (by simp), hpf _ _ (by simp) (by simp), lo (24, 0, 0) _ rfl (by simp) (by simp) (by simp) (by simp), eL]
          exact (xf.2 _ _ (by simp) (by simp) (by simp)).trans (r4 i hi)
  · have hb2 : (m_rP (L_run M k).2 k).1 = true := by simpa using hb
    obtain ⟨c, c1, c2, c3, c4, c5, c6⟩ := hq.2 hb2
    have emc : mcal (m_rP (L_run M k).2 k).2 = c := by
      show zz_ix _ = c
      rw [c4]; exact zz_ixn (by omega)
    have epr : sc_pr M k = -1 := by
      unfold sc_pr
      rw [c1]
      dsimp only
      rw [if_pos c2]
    have eQ : L_runQ M k = zz_it r_1 c (sc_pX M k).2 := by
      unfold L_runQ
      rw [c3, zz_ixn (by omega), show min c 34 = c by omega]
    have e5 : (L_runQ M k).1 (2, 0, 0) 5 = nI c := by rw [eQ, rit_fr rfl (by simp)]; exact c3
    have eL : L_run M k = (nI c, zz_set (zz_it r_1 c (sc_pX M k).2) (2, 0, 0) 6 (nI c)) := by
      unfold L_run; rw [if_neg (fun z => z epr), e5, eQ]
    have eM : m_run (L_run M k).2 k = (nI c, zz_it m_d1 c (m_rQ0 (L_run M k).2 k)) := by
      unfold m_run m_rQ; rw [if_neg hb, emc, c4]
    have y20 : (m_rQ0 (L_run M k).2 k).1 (20, 0, 0) = M.1 (20, 0, 0) := by
      funext j
      unfold m_rQ0
      rw [zo (by simp), hpf _ _ (by simp) (by simp), l20]
    have okX : Ok d n (sc_pX M k).2 ((m_rQ0 (L_run M k).2 k).1 (20, 0, 0)) := by
      rw [y20]
      exact Ok_cc I.1 (Nat.le_refl _) (fun r i h0 h1 h2 h3 => xf.2 r i (fun z => by rw [z] at h1; exact absurd (show 17 ≤ 13 from h1) (by decide)) (fun z => by rw [z] at h1; exact absurd (show 18 ≤ 13 from h1) (by decide)) (fun z => h2 (by rw [z.1]))) (fun _ _ => rfl)
    have yDX : yD d (sc_pX M k).2 (m_rQ0 (L_run M k).2 k) := by
      refine yD_c I.2.1 (xf.2 _ _ (by simp) (by simp) (by simp)) ?_
      unfold m_rQ0
      rw [zz_gs, if_neg (by simp), hpf _ _ (by simp) (by simp), l6]
    have arX : ar (sc_pX M k).2 (m_rQ0 (L_run M k).2 k) c := fun j hj => by
      obtain ⟨b1, b2⟩ := c6 j hj
      have y25 : ∀ i, (m_rQ0 (L_run M k).2 k).1 (25, 0, 0) i = (m_rP (L_run M k).2 k).2.1 (25, 0, 0) i := fun i => by unfold m_rQ0; rw [zo (by simp)]
      rw [y25]
      exact ⟨b1, fun i hi => by rw [y25]; exact b2 i hi⟩
    have loop := run_loop (c := c) (by omega) okX yDX hn arX
    obtain ⟨p1, p2, p3, p4, p5, p6⟩ := loop c (Nat.le_refl _)
    have yo : ∀ r i, ¬ r = (20, 0, 0) → ¬ r = (24, 0, 0) → ¬ r = (25, 0, 0) → ¬ (r = (6, 0, 0) ∧ (i = 6 ∨ i = 9 ∨ i = 10)) → (zz_it m_d1 c (m_rQ0 (L_run M k).2 k)).1 r i = (L_run M k).2.1 r i := fun r i h1 h2 h3 h4 => by
      rw [m_ds_fr h1 h2]
      unfold m_rQ0
      rw [zz_gs, if_neg (fun z => h4 ⟨z.1, Or.inl z.2⟩)]
      exact hpf r i h3 (fun z => h4 ⟨z.1, Or.inr z.2⟩)
    refine ⟨by rw [eM, eL], ?_, fun _ j hj => ?_⟩
    · rw [eM]
      dsimp only
      have hM : ∀ r i, oc r i = true → ¬ r = (20, 0, 0) → ¬ tx r → (zz_it m_d1 c (m_rQ0 (L_run M k).2 k)).1 r i = M.1 r i := fun r i h1 h2 h => by
        rw [yo r i h2 (tx_n h (by unfold tx; simp)) (tx_n h (by unfold tx; simp)) (fun z => tx_n h (by unfold tx; simp) z.1)]
        exact lo r i h1 (tx_n h (by unfold tx; simp)) (tx_n h (by unfold tx; simp)) (tx_n h (by unfold tx; simp)) (fun z => tx_n h (by unfold tx; simp) z.1)
      obtain ⟨_, b, s, _, _⟩ := I
      refine ⟨?_, yD_c b ?_ ?_, fun j hj => ?_, ⟨k, k100, ?_, ?_, fun i hi => ?_⟩, ⟨c, by omega, ?_, ?_, fun i hi => ?_⟩⟩
      · refine Ok_cc p1 (by omega) (fun r i h0 h1 h2 h3 => ?_) (fun _ _ => rfl)
        rw [yo r i (fun z => by rw [z] at h1; exact absurd (show 20 ≤ 13 from h1) (by decide)) (fun z => by rw [z] at h1; exact absurd (show 24 ≤ 13 from h1) (by decide)) (fun z => by rw [z] at h1; exact absurd (show 25 ≤ 13 from h1) (by decide)) (fun z => h3 (by rw [z.1])), eL]
        dsimp only
        rw [zo (fun z => h2 (by rw [z]))]
      · rw [yo _ _ (by simp) (by simp) (by simp) (by simp)]; exact lo _ _ rfl (by simp) (by simp) (by simp) (by simp)
      · rw [yo _ _ (by simp) (by simp) (by simp) (by simp), l6]
      · obtain ⟨x, y⟩ := s j hj
        rw [hM _ _ rfl (by simp) (by unfold tx; simp), hM _ _ rfl (by simp) (by unfold tx; simp)]
        refine ⟨x, fun z => snp_c (by omega) hj (y z) (fun r i h0 h1 h2 h3 => hM r i (oc_w (by omega)) (fun z => by rw [z] at h1; exact absurd (show 20 ≤ 13 from h1) (by decide)) (by unfold tx; omega)) (fun i _ _ => hM _ _ rfl (by simp) (by unfold tx; simp))⟩
      · rw [yo _ _ (by simp) (by simp) (by simp) (by simp), lo _ _ rfl (by simp) (by simp) (by simp) (by simp)]; exact t2
      · rw [yo _ _ (by simp) (by simp) (by simp) (by simp), l6]; exact t3
      · rw [yo _ _ (by simp) (by simp) (by simp) (by simp), yo _ _ (by simp) (by simp) (by simp) (by simp), l23, lo _ _ rfl (by simp) (by simp) (by simp) (by simp)]; exact t4 i hi
      · rw [yo _ _ (by simp) (by simp) (by simp) (by simp), eL]
        dsimp only
        rw [zz_gs, if_pos ⟨rfl, rfl⟩]
      · rw [m_ds_fr (by simp) (by simp)]
        unfold m_rQ0
        rw [zz_gs, if_pos ⟨rfl, rfl⟩, c4]
      · rw [yo _ _ (by simp) (by simp) (by simp) (by simp)]
        have e19 : (L_run M k).2.1 (19, 0, 0) i = (zz_it r_1 c (sc_pX M k).2).1 (19, 0, 0) i := by rw [eL]; dsimp only; rw [zo (by simp)]
        rw [e19]
        exact p3 i hi
    · rw [emc] at hj
      have lj := (loop j (by omega)).1
      exact ⟨lj.1.2.1, fun s hs => s_mdl lj.2.2 hs⟩
end TX
