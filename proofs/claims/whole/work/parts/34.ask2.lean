theorem bt_sub : ∀ k R : Fin 32, (nI k.val &&& (nI R.val ^^^ -1)) = 0 → k.val ≤ R.val ∧ (k.val = R.val ∨ bcx (nI k.val) < bcx (nI R.val)) := by decide +kernel
theorem bt_self : ∀ R : Fin 32, (nI R.val &&& (nI R.val ^^^ -1)) = 0 ∧ ¬ bcx (nI R.val) < bcx (nI R.val) := by decide +kernel
theorem bt_many : ∀ k : Fin 32, m_mny (nI k.val) 5 = bcx (nI k.val) := by decide +kernel
theorem bt_lt : ∀ j k : Fin 32, (bcx (nI j.val) < bcx (nI k.val)) → ¬ (bcx (nI k.val) < bcx (nI j.val)) := by decide +kernel
theorem bt_neg : ∀ k : Fin 32, ¬ nI k.val = -1000 := by decide +kernel
theorem bt_bit : ∀ b0 b1 b2 b3 b4 : Bool, (b0 = true → rsb b0 b1 b2 b3 b4 >>> (nI 0 &&& 31) &&& 1 = 1) ∧ (b1 = true → rsb b0 b1 b2 b3 b4 >>> (nI 1 &&& 31) &&& 1 = 1) ∧ (b2 = true → rsb b0 b1 b2 b3 b4 >>> (nI 2 &&& 31) &&& 1 = 1) ∧ (b3 = true → rsb b0 b1 b2 b3 b4 >>> (nI 3 &&& 31) &&& 1 = 1) ∧ (b4 = true → rsb b0 b1 b2 b3 b4 >>> (nI 4 &&& 31) &&& 1 = 1) := by decide +kernel
section QB
variable {d : Int} {n : Nat} {Mc Mm : zM}
theorem rs_bit (M : zM) {s : Nat} (hs : s < 5) (h : M.1 (3, 0, s) 3 = 0) : c_rs M 5 >>> (nI s &&& 31) &&& 1 = 1 := by
  rw [c_rs_eq]
  obtain ⟨h0, h1, h2, h3, h4⟩ := bt_bit (decide (M.1 (3, 0, 0) 3 = 0)) (decide (M.1 (3, 0, 1) 3 = 0)) (decide (M.1 (3, 0, 2) 3 = 0)) (decide (M.1 (3, 0, 3) 3 = 0)) (decide (M.1 (3, 0, 4) 3 = 0))
  match s, hs with
  | 0, _ => exact h0 (decide_eq_true h)
  | 1, _ => exact h1 (decide_eq_true h)
  | 2, _ => exact h2 (decide_eq_true h)
  | 3, _ => exact h3 (decide_eq_true h)
  | 4, _ => exact h4 (decide_eq_true h)
theorem all_gone {s v : Nat} (hs : s < 5) : c_tg Mc (c_rs Mc 5) s v = -1000 := by
  unfold c_tg
  rw [if_pos]
  by_cases h : Mc.1 (3, 0, s) 3 = 0
  · left
    unfold c_gone
    rw [rs_bit Mc hs h]
    simp
  · right; left
    unfold c_re
    simp [h]
theorem all_gone2 {s : Nat} (hs : s < 5) : ∀ k, c_tl Mc (c_rs Mc 5) s k = -1000
  | 0 => rfl
  | k + 1 => by rw [c_tl, if_neg (fun z => z.1 (all_gone hs))]; exact all_gone2 hs k
theorem all_gone3 : ∀ (f s : Nat), s + f ≤ 5 → c_sw Mc (c_rs Mc 5) f s = true
  | 0, _, _ => rfl
  | f + 1, s, h => by rw [c_sw, if_pos (all_gone2 (by omega) 5)]; exact all_gone3 f (s + 1) (by omega)
theorem b_sw {cr : Int32} (hR : yRel 0 Mc (Mm.1 (20, 0, 0))) (hV : Vn d n (Mm.1 (20, 0, 0))) (hD : yD d Mc Mm) : ∀ (f s : Nat), s + f ≤ 5 → c_sw Mc cr f s = m_sw Mm cr f s
  | 0, _, _ => rfl
  | f + 1, s, h => by rw [c_sw, m_sw, b_tl hR hV hD (by omega) 5 (by omega), b_sw hR hV hD f (s + 1) (by omega)]
theorem lc_up {R : Nat} (hR5 : R < 32) (hr : c_rs Mc 5 = nI R) (hR : yRel 0 Mc (Mm.1 (20, 0, 0))) (hV : Vn d n (Mm.1 (20, 0, 0))) (hD : yD d Mc Mm) : ∀ k, k ≤ R → (m_lc Mm (nI R) k = -1000 ∧ c_lcb Mc (nI R) k = nI R) ∨ ∃ x, x < R ∧ m_lc Mm (nI R) k = nI x ∧ c_lcb Mc (nI R) k = nI x ∧ (nI x &&& (nI R ^^^ -1)) = 0
  | 0, _ => Or.inl ⟨rfl, rfl⟩
  | k + 1, hk => by
    rw [m_lc, c_lcb, b_sw hR hV hD 5 0 (by omega)]
    unfold m_l0
    by_cases hsub : (nI k &&& (nI R ^^^ -1)) = 0
    · obtain ⟨_, h2⟩ := bt_sub ⟨k, by omega⟩ ⟨R, hR5⟩ hsub
      have h2 : bcx (nI k) < bcx (nI R) := by rcases h2 with x | x; exact absurd x (by dsimp only; omega); exact x
      rcases lc_up hR5 hr hR hV hD k (by omega) with ⟨e1, e2⟩ | ⟨x, hx, e1, e2, e3⟩
      · rw [e1, e2]
        cases hsw : m_sw Mm (nI k) 5 0
        · left; simp
        · right
          exact ⟨k, by omega, by rw [decide_eq_true hsub]; simp, by rw [if_pos ⟨hsub, h2, rfl⟩], hsub⟩
      · rw [e1, e2]
        have hb := bt_neg ⟨x, by omega⟩
        have m1 := bt_many ⟨k, by omega⟩
        have m2 := bt_many ⟨x, by omega⟩
        dsimp only at hb m1 m2
        rw [m1, m2]
        right
        by_cases hlt : bcx (nI k) < bcx (nI x)
        · cases hsw : m_sw Mm (nI k) 5 0
          · exact ⟨x, hx, by simp, by simp, e3⟩
          · exact ⟨k, by omega, by rw [decide_eq_true hsub, decide_eq_true hlt]; simp, by rw [if_pos ⟨hsub, hlt, rfl⟩], hsub⟩
        · exact ⟨x, hx, by simp [hlt, hb], by simp [hlt], e3⟩
    · rw [decide_eq_false hsub, if_neg (by simp), if_neg (fun z => hsub z.1)]
      exact lc_up hR5 hr hR hV hD k (by omega)
theorem lc_over {R : Nat} (hR5 : R < 32) : ∀ k, R + 1 + k ≤ 32 → m_lc Mm (nI R) (R + 1 + k) = m_lc Mm (nI R) (R + 1)
  | 0, _ => rfl
  | k + 1, h => by
    rw [show R + 1 + (k + 1) = (R + 1 + k) + 1 by omega, m_lc, if_neg, lc_over hR5 k (by omega)]
    unfold m_l0
    have hn : ¬ (nI (R + 1 + k) &&& (nI R ^^^ -1)) = 0 := fun z => by
      have := (bt_sub ⟨R + 1 + k, by omega⟩ ⟨R, hR5⟩ z).1
      dsimp only at this
      omega
    rw [decide_eq_false hn]
    simp
theorem q_leastCrashes (hR : yRel 0 Mc (Mm.1 (20, 0, 0))) (hV : Vn d n (Mm.1 (20, 0, 0))) (hD : yD d Mc Mm) : c_lcb Mc (c_rs Mc 5) (zz_ix (c_rs Mc 5) + 1) = m_lc Mm (m_rs Mm 5) 32 := by
  obtain ⟨R, h31, hr⟩ := c_rs_in Mc
  have hsw := all_gone3 (Mc := Mc) 5 0 (by omega)
  have hsw2 := b_sw (cr := c_rs Mc 5) hR hV hD 5 0 (by omega)
  rw [← b_rs hR 5 (by omega)]
  rw [hr] at hsw hsw2 ⊢
  rw [zz_ixn (by omega)]
  have e32 := lc_over (Mm := Mm) (R := R) (by omega) (31 - R) (by omega)
  rw [show R + 1 + (31 - R) = 32 by omega] at e32
  rw [e32, c_lcb, m_lc]
  obtain ⟨s1, s2⟩ := bt_self ⟨R, by omega⟩
  dsimp only at s1 s2
  rcases lc_up (by omega) hr hR hV hD R (Nat.le_refl _) with ⟨e1, e2⟩ | ⟨x, hx, e1, e2, e3⟩
  · rw [e1, e2, if_neg (fun z => s2 z.2.1), if_pos]
    unfold m_l0
    rw [← hsw2, hsw, s1]
    simp
  · have hb := bt_neg ⟨x, by omega⟩
    have m1 := bt_many ⟨R, by omega⟩
    have m2 := bt_many ⟨x, by omega⟩
    have hlt := (bt_sub ⟨x, by omega⟩ ⟨R, by omega⟩ e3).2
    have hlt : bcx (nI x) < bcx (nI R) := by rcases hlt with z | z; exact absurd z (by dsimp only; omega); exact z
    have hn := bt_lt ⟨x, by omega⟩ ⟨R, by omega⟩ hlt
    dsimp only at hb m1 m2 hn
    rw [e1, e2, if_neg (fun z => hn z.2.1), if_neg]
    unfold m_l0
    rw [m1, m2]
    simp [hb, hn]
theorem b_lh {key : Int32} (hR : yRel 0 Mc (Mm.1 (20, 0, 0))) (hV : Vn d n (Mm.1 (20, 0, 0))) (hS : Sf (al (Mm.1 (20, 0, 0))) (an (Mm.1 (20, 0, 0)))) : ∀ k, k ≤ fl (Mm.1 (20, 0, 0)) 1436 → lo_lv Mc 0 5 key 2147483647 k = m_lh Mm key k
  | 0, _ => rfl
  | k + 1, hk => by
    obtain ⟨_, _, _, _, _, _, _, _, _, _, ST⟩ := id hS
    have h1 := (ST 5 (by omega)).1 k (by rw [an5]; omega)
    have h2 := (Vn_hist hV).2
    rw [alL _ (by omega) (by omega)] at h1
    have e : ∀ c, c < 4 → Mc.1 (7, 0, 5) (4 * k + c) = Mm.1 (20, 0, 0) (1276 + 4 * k + c) := fun c hc => by
      rw [hR.2.2.2.2.1.2.2 _ (by omega)]; exact congrArg (Mm.1 (20, 0, 0)) (by omega)
    have n1 : (2147483647 : Int32).toInt = 2147483647 := by decide
    have a1 : ¬ (2147483647 : Int32) < Mm.1 (20, 0, 0) (1276 + 4 * k + 3) := by
      rw [ni_lt, n1, show 1276 + 4 * k + 3 = 476 + 160 * 5 + (4 * k + 3) by omega]; omega
    rw [lo_lv, m_lh, b_lh hR hV hS k (by omega), e 1 (by omega), e 2 (by omega), e 3 (by omega)]
    simp only [a1, not_false_eq_true, and_true]
theorem b_sk {s : Nat} (hs : s < 5) (hR : yRel 0 Mc (Mm.1 (20, 0, 0))) (hV : Vn d n (Mm.1 (20, 0, 0))) (hS : Sf (al (Mm.1 (20, 0, 0))) (an (Mm.1 (20, 0, 0)))) : ∀ k, c_sk Mc s k = m_sk Mm s k
  | 0 => rfl
  | k + 1 => by
    have e : cmn Mc 0 5 = fl (Mm.1 (20, 0, 0)) 1436 := by unfold cmn fl; rw [hR.2.2.2.2.1.2.1]
    rw [c_sk, m_sk, b_sk hs hR hV hS k, b_cm hR hs, e, b_lv hR hs _ (done_le hS hs).1, b_lvt hV hS hs _ (done_le hS hs).1, b_lh hR hV hS _ (Nat.le_refl _)]
    show (if m_lv Mm s (nI k) 2000000000 (mn Mm (56 + s)) = m_lh Mm (nI k) (mn Mm 1436) then _ else _) = _
    split
    · exact (Int32.add_zero _).symm
    · rfl
theorem q_staleKeys {a : Int32} (hR : yRel 0 Mc (Mm.1 (20, 0, 0))) (hV : Vn d n (Mm.1 (20, 0, 0))) (hS : Sf (al (Mm.1 (20, 0, 0))) (an (Mm.1 (20, 0, 0)))) : L_staleKeys Mc a = m_staleKeys Mm a := by
  unfold L_staleKeys m_staleKeys
  by_cases ha : nsv a
  · rw [if_pos ha, if_pos ha]
  · rw [if_neg ha, if_neg ha, b_sk (nsv_ix ha) hR hV hS]
theorem ff_ge {p : Nat → Bool} : ∀ (f i m : Nat), m ≤ i + f → (∀ j, i ≤ j → j < m → p j = false) → m ≤ zz_ff p f i ∨ m ≤ i
  | 0, i, m, h, _ => Or.inr (by omega)
  | f + 1, i, m, h, hp => by
    by_cases e : m ≤ i
    · exact Or.inr e
    · rw [zz_ff, hp i (Nat.le_refl _) (by omega)]
      rcases ff_ge f (i + 1) m (by omega) (fun j h1 h2 => hp j (by omega) h2) with x | x
      · exact Or.inl x
      · left
        have : ∀ (p : Nat → Bool) (f i : Nat), i ≤ zz_ff p f i := by
          intro p f
          induction f with
          | zero => intro i; exact Nat.le_refl _
          | succ f ih =>
            intro i
            rw [zz_ff]
            split
            · exact Nat.le_refl _
            · exact Nat.le_trans (Nat.le_succ i) (ih (i + 1))
        have := this p f (i + 1)
        simp only [Bool.false_eq_true, if_false]
        omega
theorem dn_eq {s j : Nat} (hs : s < 5) (hV : Vn d n (Mm.1 (20, 0, 0))) (hS : Sf (al (Mm.1 (20, 0, 0))) (an (Mm.1 (20, 0, 0)))) (hj : j < 4 * fl (Mm.1 (20, 0, 0)) (56 + s)) : q Mm (476 + 160 * s + j) = q Mm (1276 + j) := by
  obtain ⟨_, _, _, _, _, _, _, _, DN, _⟩ := id hS
  have h1 := (Vn_done hV hs).2
  have h := (DN s hs).2.2 j (by rw [an1 _ hs]; exact hj)
  rw [alL _ (by omega) (by omega), alH _ (by omega)] at h
  exact Int32.toInt_inj.mp h
theorem m_k1_t {s : Nat} (hs : s < 5) (hV : Vn d n (Mm.1 (20, 0, 0))) (hS : Sf (al (Mm.1 (20, 0, 0))) (an (Mm.1 (20, 0, 0)))) : ∀ f k, k + f ≤ 4 * fl (Mm.1 (20, 0, 0)) (56 + s) → m_k1 Mm s f k = true
  | 0, _, _ => rfl
  | f + 1, k, h => by rw [m_k1, if_pos (dn_eq hs hV hS (by omega))]; exact m_k1_t hs hV hS f (k + 1) (by omega)
def od (M : zM) (s j : Nat) : Bool := !decide (m_pt M s (j + 1) 0 < m_pt M s j 0) && decide (m_pt M s j 3 < m_pt M s (j + 1) 3)
theorem lo_or_iff {s : Nat} (hs : s < 5) (hR : yRel 0 Mc (Mm.1 (20, 0, 0))) : ∀ f i, 1 ≤ i → i + f ≤ fl (Mm.1 (20, 0, 0)) (51 + s) → (lo_or Mc 0 s f i = true ↔ ∀ j, i ≤ j + 1 → j + 1 < i + f → od Mm s j = true)
  | 0, i, _, _ => ⟨fun _ j h1 h2 => absurd h2 (by omega), fun _ => rfl⟩
  | f + 1, i, h1, h2 => by
    have ih := lo_or_iff hs hR f (i + 1) (by omega) (by omega)
    have e0 : Mc.1 (7, 0, s) (4 * i) = m_pt Mm s i 0 := b_pt hR hs (c := 0) (by omega) (by omega)
    have e1 : Mc.1 (7, 0, s) (4 * (i - 1)) = m_pt Mm s (i - 1) 0 := b_pt hR hs (c := 0) (by omega) (by omega)
    rw [lo_or, e0, e1, b_pt hR hs (by omega) (by omega), b_pt hR hs (by omega) (by omega)]
    by_cases e : m_pt Mm s i 0 < m_pt Mm s (i - 1) 0 ∨ ¬ m_pt Mm s (i - 1) 3 < m_pt Mm s i 3
    · rw [if_pos e]
      refine ⟨fun z => absurd z (by simp), fun z => ?_⟩
      have := z (i - 1) (by omega) (by omega)
      unfold od at this
      rw [show i - 1 + 1 = i by omega] at this
      rcases e with x | x <;> simp [x] at this
    · rw [if_neg e, ih]
      constructor
      · intro z j h3 h4
        by_cases ej : j + 1 = i
        · unfold od
          rw [ej, show j = i - 1 by omega]
          simp only [not_or, Decidable.not_not] at e
          simp [e.1, e.2]
        · exact z j (by omega) (by omega)
      · intro z j h3 h4
        exact z j (by omega) (by omega)
theorem m_k2_iff {s : Nat} {b : Bool} : ∀ k, (m_k2 Mm s b k = true ↔ b = true ∧ ∀ j, j < k → od Mm s j = true)
  | 0 => ⟨fun z => ⟨z, fun j h => absurd h (Nat.not_lt_zero _)⟩, fun z => z.1⟩
  | k + 1 => by
    have ih := m_k2_iff (s := s) (b := b) k
    have e : m_k2 Mm s b (k + 1) = (m_k2 Mm s b k && od Mm s k) := rfl
    rw [e, Bool.and_eq_true, ih]
    constructor
    · rintro ⟨⟨a, b⟩, c⟩
      refine ⟨a, fun j hj => ?_⟩
      by_cases ej : j = k
      · subst ej; exact c
      · exact b j (by omega)
    · rintro ⟨a, b⟩
      exact ⟨⟨a, fun j hj => b j (by omega)⟩, b k (by omega)⟩
theorem b_kp {s : Nat} (hs : s < 5) (hR : yRel 0 Mc (Mm.1 (20, 0, 0))) (hV : Vn d n (Mm.1 (20, 0, 0))) (hS : Sf (al (Mm.1 (20, 0, 0))) (an (Mm.1 (20, 0, 0)))) : c_is1 Mc s = m_kp Mm s := by
  obtain ⟨d1, d2⟩ := done_le hS hs
  have dv := Vn_done hV hs
  have e1 : m_k1 Mm s (4 * mn Mm (56 + s)) 0 = true := m_k1_t hs hV hS _ _ (by show 0 + 4 * fl (Mm.1 (20, 0, 0)) (56 + s) ≤ _; omega)
  have e2 : ¬ mn Mm 1436 < mn Mm (56 + s) := by show ¬ fl (Mm.1 (20, 0, 0)) 1436 < fl (Mm.1 (20, 0, 0)) (56 + s); omega
  have r5 : rn Mc 0 5 = fl (Mm.1 (20, 0, 0)) 1436 := by unfold rn fl; rw [hR.2.2.2.2.1.1]
  have e3 : fl (Mm.1 (20, 0, 0)) (56 + s) ≤ ro_shared Mc 0 s 0 5 (min (rn Mc 0 s) (rn Mc 0 5)) := by
    unfold ro_shared
    rw [b_rn hR hs, r5]
    rcases ff_ge (p := fun i => !(Mc.1 (7, 0, s) i == Mc.1 (7, 0, 5) i)) (4 * min (fl (Mm.1 (20, 0, 0)) (51 + s)) (fl (Mm.1 (20, 0, 0)) 1436)) 0 (4 * fl (Mm.1 (20, 0, 0)) (56 + s)) (by omega) (fun j _ hj => by
      have := dn_eq hs hV hS hj
      rw [(hR.2.2.2.1 s hs).2.2 j (by omega), hR.2.2.2.2.1.2.2 j (by omega)]
      unfold q at this
      rw [this]
      simp) with x | x
    · omega
    · omega
  have e4 : ro_shared Mc 0 s 0 5 (min (rn Mc 0 s) (rn Mc 0 5)) < 100000 := by
    have : ∀ (p : Nat → Bool) (f i : Nat), zz_ff p f i ≤ i + f := by
      intro p f
      induction f with
      | zero => intro i; exact Nat.le_refl _
      | succ f ih =>
        intro i
        rw [zz_ff]
        split
        · omega
        · have := ih (i + 1); omega
    have h1 := (Vn_len hV hs).2
    unfold ro_shared
    rw [b_rn hR hs]
    have := this (fun i => !(Mc.1 (7, 0, s) i == Mc.1 (7, 0, 5) i)) (4 * min (fl (Mm.1 (20, 0, 0)) (51 + s)) (rn Mc 0 5)) 0
    omega
  unfold c_is1 m_kp
  rw [(hR.2.2.2.1 s hs).2.1, dv.1]
  have e5 : ¬ nI (ro_shared Mc 0 s 0 5 (min (rn Mc 0 s) (rn Mc 0 5))) < nI (fl (Mm.1 (20, 0, 0)) (56 + s)) := by
    rw [ni_ltn (by omega) (by omega)]; omega
  rw [decide_eq_false e5, decide_eq_false e2, e1, b_rn hR hs]
  simp only [Bool.not_false, Bool.and_true]
  rw [Bool.eq_iff_iff]
  show _ ↔ m_k2 Mm s true (fl (Mm.1 (20, 0, 0)) (51 + s) - 1) = true
  rw [m_k2_iff]
  by_cases z : fl (Mm.1 (20, 0, 0)) (51 + s) = 0
  · rw [z]
    exact ⟨fun _ => ⟨rfl, fun j hj => absurd hj (by omega)⟩, fun _ => rfl⟩
  · rw [lo_or_iff hs hR _ _ (by omega) (by omega)]
    exact ⟨fun h => ⟨rfl, fun j hj => h j (by omega) (by omega)⟩, fun h j _ hj => h.2 j (by omega)⟩
theorem b_is (hR : yRel 0 Mc (Mm.1 (20, 0, 0))) (hV : Vn d n (Mm.1 (20, 0, 0))) (hD : yD d Mc Mm) (hS : Sf (al (Mm.1 (20, 0, 0))) (an (Mm.1 (20, 0, 0)))) : ∀ k, k ≤ 5 → c_is Mc k = m_is Mm k
  | 0, _ => by
    rw [c_is, m_is, b_hs hR hV hD 5 (by omega)]
    have h5 : m_hs Mm 5 = rsb (m_ha Mm 0) (m_ha Mm 1) (m_ha Mm 2) (m_ha Mm 3) (m_ha Mm 4) := rfl
    obtain ⟨r, hr⟩ := rsb_in (m_ha Mm 0) (m_ha Mm 1) (m_ha Mm 2) (m_ha Mm 3) (m_ha Mm 4)
    rw [h5, hr, bt_many r]
  | k + 1, hk => by rw [c_is, m_is, b_is hR hV hD hS k (by omega), b_kp (by omega) hR hV hS]
theorem lf_c {f g : Nat → Int32} (h : Int64) : ∀ k, (∀ i, i < k → f i = g i) → lf f k h = lf g k h
  | 0, _ => rfl
  | k + 1, e => by rw [lf1, lf1, lf_c h k (fun i hi => e i (by omega)), e k (by omega)]
theorem b_dS (hR : yRel 0 Mc (Mm.1 (20, 0, 0))) (hV : Vn d n (Mm.1 (20, 0, 0))) (hD : yD d Mc Mm) (hS : Sf (al (Mm.1 (20, 0, 0))) (an (Mm.1 (20, 0, 0)))) : ∀ k h, k ≤ 5 → dg_S Mc k h = md_S Mm k h
  | 0, _, _ => rfl
  | k + 1, h, hk => by
    have e0 : L_clock Mc (nI k) 0 = m_rd Mm k := by
      rw [q_clock hR hD]
      unfold m_clock
      have hn : ¬ nsv (nI k) := by
        rw [show nsv (nI k) = (nI k < nI 0 ∨ nI 4 < nI k) from rfl, ni_ltn (by omega) (by omega), ni_ltn (by omega) (by omega)]
        omega
      rw [if_neg (by rintro (x | x | x); exact hn x; exact absurd x (by decide); exact absurd x (by decide)), if_pos rfl, zz_ixn (by omega)]
    rw [dg_S, md_S, b_dS hR hV hD hS k h (by omega)]
    unfold dg_s md_s
    rw [b_rn hR (by omega), e0, (hR.2.1 k (by omega)).2.1, q_holds hR hV hD, lf_c _ (4 * fl (Mm.1 (20, 0, 0)) (51 + k)) (fun i hi => (hR.2.2.2.1 k (by omega)).2.2 i hi), lf_c _ 5 (fun i _ => q_log (a := nI k) (w := nI i) hR hV hS), lf_c _ 5 (fun i _ => q_known (a := nI k) (w := nI i) hR)]
    rfl
theorem q_digest (hR : yRel 0 Mc (Mm.1 (20, 0, 0))) (hr : yR 0 Mc (Mm.1 (20, 0, 0))) (hV : Vn d n (Mm.1 (20, 0, 0))) (hD : yD d Mc Mm) (hS : Sf (al (Mm.1 (20, 0, 0))) (an (Mm.1 (20, 0, 0)))) (h7 : Mc.1 (2, 0, 0) 4 = Mm.1 (6, 0, 0) 5) (h8 : Mc.1 (2, 0, 0) 6 = Mm.1 (6, 0, 0) 6) : L_digest Mc = m_digest Mm := by
  unfold L_digest m_digest
  have r11 : rn Mc 0 11 = fl (Mm.1 (20, 0, 0)) 1437 := by unfold rn fl; rw [hR.2.2.2.2.2.2.1.1]
  have eC : ∀ h, dg_C Mc 4 h = lf (fun k => q Mm (1639 + k)) 8 h := by
    intro h
    have c0 := hR.2.2.2.2.2.2.2.1 0 (by omega)
    have c1 := hR.2.2.2.2.2.2.2.1 1 (by omega)
    have c2 := hR.2.2.2.2.2.2.2.1 2 (by omega)
    have c3 := hR.2.2.2.2.2.2.2.1 3 (by omega)
    simp only [dg_C, lf1, lf0]
    rw [c0.1, c0.2, c1.1, c1.2, c2.1, c2.2, c3.1, c3.2]
  have eR : ∀ i, i < 5 → Mc.1 (11, 0, 0) i = m_reason Mm (nI i) := by
    intro i hi
    have hn : ¬ nsv (nI i) := by
      rw [show nsv (nI i) = (nI i < nI 0 ∨ nI 4 < nI i) from rfl, ni_ltn (by omega) (by omega), ni_ltn (by omega) (by omega)]
      omega
    unfold m_reason
    rw [if_neg hn, zz_ixn (by omega)]
    exact hr i hi
  rw [r11, lf_c _ 5 eR, eC, lf_c _ (4 * fl (Mm.1 (20, 0, 0)) 1437) (fun i hi => hR.2.2.2.2.2.2.1.2 i hi), b_dS hR hV hD hS 5 _ (by omega), lf_c 2525 11 (fun i _ => q_count (w := nI i) hR hV hD h7 h8)]
  rfl
end QB
