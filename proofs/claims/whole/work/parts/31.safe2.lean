/-- a follower takes the log of the one that has the lease -/
theorem sf_share {A A' : sA} {N N' : sN} {s v : Nat} (hs : s < 5) (hv : v < 5) (hsv : ¬ v = s) (h : Sf A N) (ha : sf_act A s)
    (hl : ∀ j, j < 160 → A' (10 + v) j = if j < 4 * N 0 s then A (10 + s) j else A (10 + v) j) (hk : ∀ k, 10 ≤ k → ¬ k = 10 + v → ∀ j, A' k j = A k j)
    (hT : A' 0 0 = A 0 0) (h4 : ∀ u, u < 5 → A' 4 u = A 4 u ∧ A' 5 u = A 5 u ∧ A' 2 u = A 2 u ∧ A' 3 u = A 3 u) (tm : ∀ u, u < 5 → A 1 u ≤ A' 1 u)
    (n0 : N' 0 v = N 0 s) (n0' : ∀ u, u < 6 → ¬ u = v → N' 0 u = N 0 u) (n1 : N' 1 v = max (N 1 v) (N 1 s)) (n1' : ∀ u, u < 5 → ¬ u = v → N' 1 u = N 1 u) (n2 : ∀ u, u < 5 → N' 2 u = N 2 u) : Sf A' N' := by
  obtain ⟨nb, PQ, TL, TG, LD, LC, MQ, TM, DN, OW, ST⟩ := h
  have nbs := nb s (by omega)
  have act : ∀ u, u < 5 → sf_act A' u → u = s := by
    intro u hu a
    obtain ⟨e4, e5, _, _⟩ := h4 u hu
    exact sf_one PQ hu hs ⟨by have := a.1; omega, by have := a.2; omega⟩ ha
  have kv : ∀ j, j < 4 * N 0 s → A' (10 + v) j = A (10 + s) j := fun j hj => by rw [hl j (by omega), if_pos hj]
  have ko : ∀ u, ¬ u = v → ∀ j, A' (10 + u) j = A (10 + u) j := fun u hu j => hk _ (by omega) (by omega) j
  have k5 : ∀ j, A' 15 j = A 15 j := fun j => hk 15 (by omega) (by omega) j
  have ltv : sf_lt A' N' v = sf_lt A N s := by
    unfold sf_lt
    rw [n0]
    split
    · rfl
    · exact kv _ (by omega)
  have lto : ∀ u, u < 6 → ¬ u = v → sf_lt A' N' u = sf_lt A N u := fun u h6 hu => sf_lt_c (n0' u h6 hu) (ko u hu)
  have gev : sf_ge A' N' v 5 ↔ sf_ge A N s 5 := by
    unfold sf_ge
    rw [ltv, lto 5 (by omega) (by omega), n0, n0' 5 (by omega) (by omega)]
  have geo : ∀ u, u < 5 → ¬ u = v → (sf_ge A' N' u 5 ↔ sf_ge A N u 5) := fun u h5 hu => sf_ge_c (n0' u (by omega) hu) (ko u hu) (n0' 5 (by omega) (by omega)) (ko 5 (by omega))
  have lds := LD s hs ha
  have p5 := LC s hs lds
  refine ⟨fun u hu => ?_, fun u hu a => ?_, fun u hu a => ?_, fun u hu => ?_, fun u hu a => ?_, fun u hu g => ?_, ?_, fun u hu a w hw => ?_, fun u hu => ?_, fun u hu => ?_, fun u hu => ?_⟩
  · by_cases e : u = v
    · subst e; rw [n0]; exact nbs
    · rw [n0' u hu e]; exact nb u hu
  · have e := act u hu a
    subst e
    refine sf_mono (PQ u hu ha) (fun w hw m => ?_)
    have m1 := m.1
    have m2 := m.2
    obtain ⟨_, _, x2, x3⟩ := h4 w hw
    obtain ⟨_, x5, _, _⟩ := h4 u hu
    exact ⟨by omega, by omega⟩
  · obtain ⟨e4, _⟩ := h4 u hu
    refine sf_mono (TL u hu (by omega)) (fun w hw m => ?_)
    have := tm w hw
    omega
  · by_cases e : u = v
    · subst e
      refine sf_mono (TG s (by omega)) (fun w hw m => ?_)
      have := tm w hw
      rw [ltv]; omega
    · refine sf_mono (TG u hu) (fun w hw m => ?_)
      have := tm w hw
      rw [lto u hu e]; omega
  · have e := act u hu a
    subst e
    exact (geo u hu (by omega)).mpr lds
  · by_cases e : u = v
    · subst e
      refine ⟨by rw [n0, n0' 5 (by omega) (by omega)]; exact p5.1, fun j hj => ?_⟩
      rw [n0' 5 (by omega) (by omega)] at hj
      have p1 := p5.1
      rw [kv j (by omega), ko 5 (by omega)]
      exact p5.2 j hj
    · exact (sf_px_c (n0' 5 (by omega) (by omega)) (ko 5 (by omega)) (n0' u (by omega) e) (ko u e)).mpr (LC u hu ((geo u hu e).mp g))
  · refine sf_mono MQ (fun w hw m => ?_)
    by_cases e : w = v
    · subst e; exact gev.mpr lds
    · exact (geo w hw e).mpr m
  · have e := act u hu a
    subst e
    obtain ⟨e4, _⟩ := h4 u hu
    by_cases e : w = v
    · subst e
      rw [ltv, e4]
      refine ⟨(TM u hu ha u hu).1, fun _ => ⟨?_, fun j hj => ?_⟩⟩
      · rw [n0, n0' u (by omega) (by omega)]; exact Nat.le_refl _
      · rw [n0] at hj
        rw [kv j hj, ko u (by omega)]
    · rw [lto w (by omega) e, e4]
      obtain ⟨a1, a2⟩ := TM u hu ha w hw
      exact ⟨a1, fun x => (sf_px_c (n0' w (by omega) e) (ko w e) (n0' u (by omega) (by omega)) (ko u (by omega))).mpr (a2 x)⟩
  · by_cases e : u = v
    · subst e
      obtain ⟨a1, a2, a3⟩ := DN u hu
      obtain ⟨b1, b2, b3⟩ := DN s hs
      have p1 := p5.1
      rw [n1, n0, n0' 5 (by omega) (by omega)]
      refine ⟨by omega, by omega, fun j hj => ?_⟩
      rw [kv j (by omega), k5]
      exact (p5.2 j (by omega)).symm
    · obtain ⟨a1, a2, a3⟩ := DN u hu
      rw [n1' u hu e, n0' u (by omega) e, n0' 5 (by omega) (by omega)]
      exact ⟨a1, a2, fun j hj => by rw [ko u e, k5]; exact a3 j hj⟩
  · obtain ⟨a, b⟩ := OW u hu
    have m1 : N 1 u ≤ N' 1 u := by
      by_cases e : u = v
      · subst e; rw [n1]; omega
      · rw [n1' u hu e]; exact Nat.le_refl _
    rw [n2 u hu]
    refine ⟨fun k hkk => ?_, fun k hkk => ?_⟩
    · obtain ⟨i, h3, h5, h6⟩ := a k hkk
      exact ⟨i, by omega, by rw [hk _ (by omega) (by omega)]; exact h5, by rw [hk _ (by omega) (by omega), k5]; exact h6⟩
    · rw [hk _ (by omega) (by omega), hk _ (by omega) (by omega)]; exact b k hkk
  · by_cases e : u = v
    · subst e
      obtain ⟨a, b⟩ := ST s (by omega)
      rw [n0]
      exact ⟨fun i hi => by rw [kv _ (by omega)]; exact a i hi, fun i hi => by rw [kv _ (by omega), kv _ (by omega)]; exact b i hi⟩
    · obtain ⟨a, b⟩ := ST u hu
      rw [n0' u hu e]
      exact ⟨fun i hi => by rw [ko u e]; exact a i hi, fun i hi => by rw [ko u e, ko u e]; exact b i hi⟩
/-- the one that has the lease writes into its own log -/
theorem sf_append {A A' : sA} {N N' : sN} {s : Nat} {st : Int} (hs : s < 5) (h : Sf A N) (ha : sf_act A s) (hn : N 0 s < 40)
    (hl : ∀ j, ¬ (4 * N 0 s ≤ j ∧ j < 4 * N 0 s + 4) → A' (10 + s) j = A (10 + s) j) (l0 : A' (10 + s) (4 * N 0 s) = A 4 s) (l3 : A' (10 + s) (4 * N 0 s + 3) = st) (hk : ∀ k, 10 ≤ k → ¬ k = 10 + s → ∀ j, A' k j = A k j)
    (hst : 0 ≤ st ∧ st ≤ 100100 + N 0 s) (hst2 : 0 < N 0 s → A (10 + s) (4 * (N 0 s - 1) + 3) < st)
    (h9 : ∀ k, k < 10 → ∀ j, A' k j = A k j)
    (n0 : N' 0 s = N 0 s + 1) (n0' : ∀ u, u < 6 → ¬ u = s → N' 0 u = N 0 u) (n1 : ∀ u, u < 5 → N' 1 u = N 1 u) (n2 : ∀ u, u < 5 → N' 2 u = N 2 u) : Sf A' N' ∧ sf_act A' s ∧ sf_lt A' N' s = A' 4 s ∧ N' 0 5 < N' 0 s := by
  obtain ⟨nb, PQ, TL, TG, LD, LC, MQ, TM, DN, OW, ST⟩ := h
  have act' : ∀ u, sf_act A' u ↔ sf_act A u := fun u => by
    unfold sf_act
    rw [h9 0 (by omega), h9 4 (by omega), h9 5 (by omega)]
  have act : ∀ u, u < 5 → sf_act A' u → u = s := fun u hu a => sf_one PQ hu hs ((act' u).mp a) ha
  have kv : ∀ j, j < 4 * N 0 s → A' (10 + s) j = A (10 + s) j := fun j hj => hl j (by omega)
  have ko : ∀ u, ¬ u = s → ∀ j, A' (10 + u) j = A (10 + u) j := fun u hu j => hk _ (by omega) (by omega) j
  have k5 : ∀ j, A' 15 j = A 15 j := fun j => hk 15 (by omega) (by omega) j
  have lts : sf_lt A' N' s = A 4 s := by
    unfold sf_lt
    rw [n0, if_neg (by omega)]
    exact l0
  have lto : ∀ u, u < 6 → ¬ u = s → sf_lt A' N' u = sf_lt A N u := fun u h6 hu => sf_lt_c (n0' u h6 hu) (ko u hu)
  have lds := LD s hs ha
  have p5 := LC s hs lds
  have ges : sf_ge A' N' s 5 := by
    unfold sf_ge at lds ⊢
    rw [lts, lto 5 (by omega) (by omega), n0, n0' 5 (by omega) (by omega)]
    have := (TM s hs ha s hs).1
    omega
  have geo : ∀ u, u < 5 → ¬ u = s → (sf_ge A' N' u 5 ↔ sf_ge A N u 5) := fun u h5 hu => sf_ge_c (n0' u (by omega) hu) (ko u hu) (n0' 5 (by omega) (by omega)) (ko 5 (by omega))
  refine ⟨⟨fun u hu => ?_, fun u hu a => ?_, fun u hu a => ?_, fun u hu => ?_, fun u hu a => ?_, fun u hu g => ?_, ?_, fun u hu a w hw => ?_, fun u hu => ?_, fun u hu => ?_, fun u hu => ?_⟩, (act' s).mpr ha, by rw [lts, h9 4 (by omega)], by rw [n0, n0' 5 (by omega) (by omega)]; have := p5.1; omega⟩
  · by_cases e : u = s
    · subst e; rw [n0]; omega
    · rw [n0' u hu e]; exact nb u hu
  · refine sf_mono (PQ u hu ((act' u).mp a)) (fun w hw m => ?_)
    rw [h9 2 (by omega), h9 5 (by omega), h9 3 (by omega)]
    exact m
  · rw [h9 4 (by omega)] at a
    refine sf_mono (TL u hu a) (fun w hw m => ?_)
    rw [h9 4 (by omega), h9 1 (by omega)]
    exact m
  · by_cases e : u = s
    · subst e
      refine sf_mono (TL u hs ha.1) (fun w hw m => ?_)
      rw [lts, h9 1 (by omega)]
      exact m
    · refine sf_mono (TG u hu) (fun w hw m => ?_)
      rw [lto u hu e, h9 1 (by omega)]
      exact m
  · have e := act u hu a
    subst e
    exact ges
  · by_cases e : u = s
    · subst e
      have p1 := p5.1
      refine ⟨by rw [n0, n0' 5 (by omega) (by omega)]; omega, fun j hj => ?_⟩
      rw [n0' 5 (by omega) (by omega)] at hj
      rw [kv j (by omega), ko 5 (by omega)]
      exact p5.2 j hj
    · exact (sf_px_c (n0' 5 (by omega) (by omega)) (ko 5 (by omega)) (n0' u (by omega) e) (ko u e)).mpr (LC u hu ((geo u hu e).mp g))
  · refine sf_mono MQ (fun w hw m => ?_)
    by_cases e : w = s
    · subst e; exact ges
    · exact (geo w hw e).mpr m
  · have e := act u hu a
    subst e
    rw [h9 4 (by omega)]
    by_cases e : w = u
    · subst e
      rw [lts]
      exact ⟨Int.le_refl _, fun _ => ⟨Nat.le_refl _, fun j _ => rfl⟩⟩
    · rw [lto w (by omega) e]
      obtain ⟨a1, a2⟩ := TM u hu ha w hw
      refine ⟨a1, fun x => ?_⟩
      obtain ⟨b1, b2⟩ := a2 x
      refine ⟨by rw [n0' w (by omega) e, n0]; omega, fun j hj => ?_⟩
      rw [n0' w (by omega) e] at hj
      rw [ko w e, kv j (by omega)]
      exact b2 j hj
  · obtain ⟨a1, a2, a3⟩ := DN u hu
    rw [n1 u hu, n0' 5 (by omega) (by omega)]
    by_cases e : u = s
    · subst e
      rw [n0]
      exact ⟨a1, by omega, fun j hj => by rw [kv j (by omega), k5]; exact a3 j hj⟩
    · rw [n0' u (by omega) e]
      exact ⟨a1, a2, fun j hj => by rw [ko u e, k5]; exact a3 j hj⟩
  · obtain ⟨a, b⟩ := OW u hu
    rw [n2 u hu, n1 u hu]
    refine ⟨fun k hkk => ?_, fun k hkk => ?_⟩
    · obtain ⟨i, h3, h5, h6⟩ := a k hkk
      exact ⟨i, by omega, by rw [hk _ (by omega) (by omega)]; exact h5, by rw [hk _ (by omega) (by omega), k5]; exact h6⟩
    · rw [hk _ (by omega) (by omega), hk _ (by omega) (by omega)]; exact b k hkk
  · by_cases e : u = s
    · subst e
      obtain ⟨a, b⟩ := ST u (by omega)
      rw [n0]
      refine ⟨fun i hi => ?_, fun i hi => ?_⟩
      · by_cases ei : i = N 0 u
        · subst ei; rw [l3]; exact hst
        · rw [kv _ (by omega)]; exact a i (by omega)
      · by_cases ei : i + 1 = N 0 u
        · rw [show 4 * (i + 1) + 3 = 4 * N 0 u + 3 by omega, l3, kv _ (by omega), show 4 * i + 3 = 4 * (N 0 u - 1) + 3 by omega]
          exact hst2 (by omega)
        · rw [kv _ (by omega), kv _ (by omega)]; exact b i (by omega)
    · obtain ⟨a, b⟩ := ST u hu
      rw [n0' u hu e]
      exact ⟨fun i hi => by rw [ko u e]; exact a i hi, fun i hi => by rw [ko u e, ko u e]; exact b i hi⟩
/-- a majority has the log of s: it comes to the history, and its last entry is owed -/
theorem sf_commit {A A' : sA} {N N' : sN} {s : Nat} (hs : s < 5) (h : Sf A N) (ha : sf_act A s) (hlt : sf_lt A N s = A 4 s) (h5 : N 0 5 < N 0 s)
    (mj : sf_maj (fun v => N 0 v = N 0 s ∧ ∀ j, j < 4 * N 0 s → A (10 + v) j = A (10 + s) j))
    (hl : ∀ j, j < 160 → A' 15 j = if 4 * N 0 5 ≤ j ∧ j < 4 * N 0 s then A (10 + s) j else A 15 j) (hk : ∀ k, 10 ≤ k → k < 15 → ∀ j, A' k j = A k j) (h9 : ∀ k, k < 10 → ∀ j, A' k j = A k j)
    (hi : ∀ u, u < 5 → ∀ k, k < N 2 u → A' (20 + u) k = A (20 + u) k ∧ A' (30 + u) k = A (30 + u) k)
    (hi2 : A' (20 + s) (N 2 s) = (N 0 s : Int) - 1 ∧ A' (30 + s) (N 2 s) = A (10 + s) (4 * (N 0 s - 1) + 3))
    (n0 : N' 0 5 = N 0 s) (n0' : ∀ u, u < 5 → N' 0 u = N 0 u) (n1 : N' 1 s = N 0 s) (n1' : ∀ u, u < 5 → ¬ u = s → N' 1 u = N 1 u) (n2 : N' 2 s = N 2 s + 1) (n2' : ∀ u, u < 5 → ¬ u = s → N' 2 u = N 2 u) : Sf A' N' := by
  obtain ⟨nb, PQ, TL, TG, LD, LC, MQ, TM, DN, OW, ST⟩ := h
  have nbs := nb s (by omega)
  have act' : ∀ u, sf_act A' u ↔ sf_act A u := fun u => by
    unfold sf_act
    rw [h9 0 (by omega), h9 4 (by omega), h9 5 (by omega)]
  have act : ∀ u, u < 5 → sf_act A' u → u = s := fun u hu a => sf_one PQ hu hs ((act' u).mp a) ha
  have p5 := LC s hs (LD s hs ha)
  have ko : ∀ u, u < 5 → ∀ j, A' (10 + u) j = A (10 + u) j := fun u hu j => hk _ (by omega) (by omega) j
  have kh : ∀ j, j < 4 * N 0 s → A' 15 j = A (10 + s) j := fun j hj => by
    rw [hl j (by omega)]
    split
    · rfl
    · exact p5.2 j (by omega)
  have k5 : ∀ j, j < 4 * N 0 5 → A' 15 j = A 15 j := fun j hj => by
    rw [hl j (by omega), if_neg (by omega)]
  have lt5 : sf_lt A' N' 5 = A 4 s := by
    rw [← hlt]
    unfold sf_lt
    rw [n0]
    split
    · rfl
    · exact kh _ (by omega)
  have lto : ∀ u, u < 5 → sf_lt A' N' u = sf_lt A N u := fun u h6 => sf_lt_c (n0' u h6) (ko u h6)
  refine ⟨fun u hu => ?_, fun u hu a => ?_, fun u hu a => ?_, fun u hu => ?_, fun u hu a => ?_, fun u hu g => ?_, ?_, fun u hu a w hw => ?_, fun u hu => ?_, fun u hu => ?_, fun u hu => ?_⟩
  · by_cases e : u = 5
    · subst e; rw [n0]; exact nbs
    · rw [n0' u (by omega)]; exact nb u hu
  · refine sf_mono (PQ u hu ((act' u).mp a)) (fun w hw m => ?_)
    rw [h9 2 (by omega), h9 5 (by omega), h9 3 (by omega)]
    exact m
  · rw [h9 4 (by omega)] at a
    refine sf_mono (TL u hu a) (fun w hw m => ?_)
    rw [h9 4 (by omega), h9 1 (by omega)]
    exact m
  · by_cases e : u = 5
    · subst e
      refine sf_mono (TL s hs ha.1) (fun w hw m => ?_)
      rw [lt5, h9 1 (by omega)]
      exact m
    · refine sf_mono (TG u hu) (fun w hw m => ?_)
      rw [lto u (by omega), h9 1 (by omega)]
      exact m
  · have e := act u hu a
    subst e
    unfold sf_ge
    rw [lt5, lto u hu, hlt, n0, n0' u hu]
    omega
  · unfold sf_ge at g
    rw [lt5, lto u hu, n0, n0' u hu] at g
    obtain ⟨a1, a2⟩ := TM s hs ha u hu
    obtain ⟨b1, b2⟩ := a2 (by omega)
    refine ⟨by rw [n0, n0' u hu]; omega, fun j hj => ?_⟩
    rw [n0] at hj
    show A' 15 j = A' (10 + u) j
    rw [kh j hj, ko u hu, b2 j (by omega)]
  · refine sf_mono mj (fun w hw m => ?_)
    obtain ⟨m1, m2⟩ := m
    unfold sf_ge
    rw [lt5, lto w hw, n0, n0' w hw, ← hlt]
    right
    refine ⟨?_, by omega⟩
    unfold sf_lt
    rw [m1]
    split
    · rfl
    · exact (m2 _ (by omega)).symm
  · have e := act u hu a
    subst e
    rw [h9 4 (by omega), lto w hw]
    obtain ⟨a1, a2⟩ := TM u hu ha w hw
    exact ⟨a1, fun x => (sf_px_c (n0' w hw) (ko w hw) (n0' u hu) (ko u hu)).mpr (a2 x)⟩
  · by_cases e : u = s
    · subst e
      rw [n1, n0, n0' u hu]
      exact ⟨Nat.le_refl _, Nat.le_refl _, fun j hj => by rw [ko u hu, kh j hj]⟩
    · obtain ⟨a1, a2, a3⟩ := DN u hu
      rw [n1' u hu e, n0, n0' u hu]
      exact ⟨by omega, a2, fun j hj => by rw [ko u hu, k5 j (by omega)]; exact a3 j hj⟩
  · obtain ⟨a, b⟩ := OW u hu
    obtain ⟨d1, _, _⟩ := DN u hu
    by_cases e : u = s
    · subst e
      rw [n2, n1]
      refine ⟨fun k hkk => ?_, fun k hkk => ?_⟩
      · by_cases ek : k = N 2 u
        · subst ek
          refine ⟨N 0 u - 1, by omega, by rw [hi2.1]; omega, ?_⟩
          rw [hi2.2, kh _ (by omega)]
        · obtain ⟨i, h3, h6, h7⟩ := a k (by omega)
          obtain ⟨x1, x2⟩ := hi u hu k (by omega)
          exact ⟨i, by omega, by rw [x1]; exact h6, by rw [x2, k5 _ (by omega)]; exact h7⟩
      · obtain ⟨x1, _⟩ := hi u hu k (by omega)
        by_cases ek : k + 1 = N 2 u
        · rw [ek, hi2.1, x1]
          obtain ⟨i, h3, h6, _⟩ := a k (by omega)
          rw [h6]
          omega
        · obtain ⟨y1, _⟩ := hi u hu (k + 1) (by omega)
          rw [x1, y1]
          exact b k (by omega)
    · rw [n2' u hu e, n1' u hu e]
      refine ⟨fun k hkk => ?_, fun k hkk => ?_⟩
      · obtain ⟨i, h3, h6, h7⟩ := a k hkk
        obtain ⟨x1, x2⟩ := hi u hu k hkk
        exact ⟨i, by omega, by rw [x1]; exact h6, by rw [x2, k5 _ (by omega)]; exact h7⟩
      · rw [(hi u hu k (by omega)).1, (hi u hu (k + 1) (by omega)).1]; exact b k hkk
  · by_cases e : u = 5
    · subst e
      obtain ⟨a, b⟩ := ST s (by omega)
      rw [n0]
      refine ⟨fun i hi => ?_, fun i hi => ?_⟩
      · show 0 ≤ A' 15 _ ∧ A' 15 _ ≤ _
        rw [kh _ (by omega)]; exact a i hi
      · show A' 15 _ < A' 15 _
        rw [kh _ (by omega), kh _ (by omega)]; exact b i hi
    · obtain ⟨a, b⟩ := ST u hu
      rw [n0' u (by omega)]
      exact ⟨fun i hi => by rw [ko u (by omega)]; exact a i hi, fun i hi => by rw [ko u (by omega), ko u (by omega)]; exact b i hi⟩
/-- what is owed gets less: the first ones go -/
theorem sf_owed {A A' : sA} {N N' : sN} {s d : Nat} (hs : s < 5) (h : Sf A N) (hd : d ≤ N 2 s) (hk : ∀ k, k < 20 → ∀ j, A' k j = A k j)
    (hi : ∀ u, u < 5 → ¬ u = s → ∀ k, k < N 2 u → A' (20 + u) k = A (20 + u) k ∧ A' (30 + u) k = A (30 + u) k)
    (hi2 : ∀ k, k < N 2 s - d → A' (20 + s) k = A (20 + s) (k + d) ∧ A' (30 + s) k = A (30 + s) (k + d))
    (n0 : ∀ u, u < 6 → N' 0 u = N 0 u) (n1 : ∀ u, u < 5 → N' 1 u = N 1 u) (n2 : N' 2 s = N 2 s - d) (n2' : ∀ u, u < 5 → ¬ u = s → N' 2 u = N 2 u) : Sf A' N' := by
  obtain ⟨nb, PQ, TL, TG, LD, LC, MQ, TM, DN, OW, ST⟩ := h
  have act' : ∀ u, sf_act A' u ↔ sf_act A u := fun u => by
    unfold sf_act
    rw [hk 0 (by omega), hk 4 (by omega), hk 5 (by omega)]
  have kl : ∀ s, s < 6 → ∀ j, A' (10 + s) j = A (10 + s) j := fun s hs j => hk _ (by omega) j
  have kt : ∀ s, s < 6 → sf_lt A' N' s = sf_lt A N s := fun s hs => sf_lt_c (n0 s hs) (kl s hs)
  have kg : ∀ s v, s < 6 → v < 6 → (sf_ge A' N' s v ↔ sf_ge A N s v) := fun s v hs hv => sf_ge_c (n0 s hs) (kl s hs) (n0 v hv) (kl v hv)
  have kp : ∀ s v, s < 6 → v < 6 → (sf_px A' N' s v ↔ sf_px A N s v) := fun s v hs hv => sf_px_c (n0 s hs) (kl s hs) (n0 v hv) (kl v hv)
  refine ⟨fun u hu => by rw [n0 u hu]; exact nb u hu, fun u hu a => ?_, fun u hu a => ?_, fun u hu => ?_, fun u hu a => ?_, fun u hu g => ?_, sf_mono MQ (fun v hv g => (kg v 5 (by omega) (by omega)).mpr g), fun u hu a w hw => ?_, fun u hu => ?_, fun u hu => ?_, fun u hu => ?_⟩
  · refine sf_mono (PQ u hu ((act' u).mp a)) (fun w hw m => ?_)
    rw [hk 2 (by omega), hk 5 (by omega), hk 3 (by omega)]
    exact m
  · rw [hk 4 (by omega)] at a
    refine sf_mono (TL u hu a) (fun w hw m => ?_)
    rw [hk 4 (by omega), hk 1 (by omega)]
    exact m
  · refine sf_mono (TG u hu) (fun w hw m => ?_)
    rw [kt u hu, hk 1 (by omega)]
    exact m
  · rw [kg u 5 (by omega) (by omega)]
    exact LD u hu ((act' u).mp a)
  · rw [kp 5 u (by omega) (by omega)]
    exact LC u hu ((kg u 5 (by omega) (by omega)).mp g)
  · rw [kt w (by omega), kp w u (by omega) (by omega), hk 4 (by omega)]
    exact TM u hu ((act' u).mp a) w hw
  · obtain ⟨a, b, c⟩ := DN u hu
    rw [n1 u hu, n0 5 (by omega), n0 u (by omega)]
    exact ⟨a, b, fun j hj => by rw [kl u (by omega), hk 15 (by omega)]; exact c j hj⟩
  · obtain ⟨a, b⟩ := OW u hu
    rw [n1 u hu]
    by_cases e : u = s
    · subst e
      rw [n2]
      refine ⟨fun k hkk => ?_, fun k hkk => ?_⟩
      · obtain ⟨i, h3, h6, h7⟩ := a (k + d) (by omega)
        obtain ⟨x1, x2⟩ := hi2 k hkk
        exact ⟨i, h3, by rw [x1]; exact h6, by rw [x2, hk 15 (by omega)]; exact h7⟩
      · rw [(hi2 k (by omega)).1, (hi2 (k + 1) (by omega)).1, show k + 1 + d = k + d + 1 by omega]
        exact b (k + d) (by omega)
    · rw [n2' u hu e]
      refine ⟨fun k hkk => ?_, fun k hkk => ?_⟩
      · obtain ⟨i, h3, h6, h7⟩ := a k hkk
        obtain ⟨x1, x2⟩ := hi u hu e k hkk
        exact ⟨i, h3, by rw [x1]; exact h6, by rw [x2, hk 15 (by omega)]; exact h7⟩
      · rw [(hi u hu e k (by omega)).1, (hi u hu e (k + 1) (by omega)).1]; exact b k hkk
  · obtain ⟨a, b⟩ := ST u hu
    rw [n0 u hu]
    exact ⟨fun i hi => by rw [kl u hu]; exact a i hi, fun i hi => by rw [kl u hu, kl u hu]; exact b i hi⟩
/-- owed stamps ascend, and there are no more than entries that are done -/
theorem sf_asc {A : sA} {N : sN} {s : Nat} (hs : s < 5) (h : Sf A N) : ∀ k i, i < k → k < N 2 s → A (20 + s) i < A (20 + s) k
  | 0, _, h0, _ => absurd h0 (Nat.not_lt_zero _)
  | k + 1, i, hi, hk => by
    obtain ⟨_, _, _, _, _, _, _, _, _, OW, _⟩ := id h
    have h1 := (OW s hs).2 k hk
    by_cases e : i = k
    · subst e; exact h1
    · have := sf_asc hs h k i (by omega) (by omega)
      omega
theorem sf_idx {A : sA} {N : sN} {s : Nat} (hs : s < 5) (h : Sf A N) : ∀ k, k < N 2 s → (k : Int) ≤ A (20 + s) k
  | 0, hk => by
    obtain ⟨_, _, _, _, _, _, _, _, _, OW, _⟩ := id h
    obtain ⟨i, _, h2, _⟩ := (OW s hs).1 0 hk
    rw [h2]; omega
  | k + 1, hk => by
    have := sf_idx hs h k (by omega)
    have := sf_asc hs h (k + 1) k (by omega) hk
    omega
theorem sf_due {A : sA} {N : sN} {s : Nat} (hs : s < 5) (h : Sf A N) : N 2 s ≤ N 1 s := by
  by_cases e : N 2 s = 0
  · omega
  · obtain ⟨_, _, _, _, _, _, _, _, _, OW, _⟩ := id h
    obtain ⟨i, h1, h2, _⟩ := (OW s hs).1 (N 2 s - 1) (by omega)
    have := sf_idx hs h (N 2 s - 1) (by omega)
    omega
theorem sf_stm {A : sA} {N : sN} {s : Nat} (hs : s < 6) (h : Sf A N) : ∀ k i, i < k → k < N 0 s → A (10 + s) (4 * i + 3) < A (10 + s) (4 * k + 3)
  | 0, _, h0, _ => absurd h0 (Nat.not_lt_zero _)
  | k + 1, i, hi, hk => by
    obtain ⟨_, _, _, _, _, _, _, _, _, _, ST⟩ := id h
    have h1 := (ST s hs).2 k hk
    by_cases e : i = k
    · subst e; exact h1
    · have := sf_stm hs h k i (by omega) (by omega)
      omega
theorem sf_ows {A : sA} {N : sN} {s i k : Nat} (hs : s < 5) (h : Sf A N) (hi : i < k) (hk : k < N 2 s) : A (30 + s) i < A (30 + s) k := by
  obtain ⟨_, _, _, _, _, _, _, _, DN, OW, _⟩ := id h
  obtain ⟨a, h1, h2, h3⟩ := (OW s hs).1 i (by omega)
  obtain ⟨b, h4, h5, h6⟩ := (OW s hs).1 k hk
  have := sf_asc hs h k i hi hk
  rw [h3, h6]
  obtain ⟨d1, _, _⟩ := DN s hs
  exact sf_stm (s := 5) (by omega) h b a (by omega) (by omega)
