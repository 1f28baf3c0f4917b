theorem nI_sur (x : Int32) : ∃ w, x = nI w := by
  refine ⟨(x.toInt % 2 ^ 32).toNat, ?_⟩
  have h := ni_rng x
  rw [ni_eq]
  unfold nI
  rw [Int32.toInt_ofNat', Int.toNat_of_nonneg (Int.emod_nonneg _ (by decide))]
  show _ = Int.bmod (x.toInt % 2 ^ 32) (2 ^ 32)
  rw [Int.bmod_def]
  omega
def QQ (n : Nat) (R : Bool × zM) (X : Option Nat × zM) : Prop :=
  (R.1 = false → FL n X (mpos R.2) ∧ R.2.1 (6, 0, 0) 10 = nI (mpos R.2)) ∧ (R.1 = true → ∃ c, X.1 = none ∧ X.2.1 (2, 0, 0) 7 = 0 ∧ X.2.1 (2, 0, 0) 5 = nI c ∧ R.2.1 (6, 0, 0) 9 = nI c ∧ 3 * c ≤ n ∧ ar X.2 R.2 c)
theorem QQ_nd {n : Nat} {R : Bool × zM} (M : zM) (h : QQ n R (none, nd M)) : QQ n R (none, M) := by
  have e7 : (nd M).1 (2, 0, 0) 7 = M.1 (2, 0, 0) 7 := by unfold nd; rw [zz_gs, if_neg (by simp)]
  have e5 : (nd M).1 (2, 0, 0) 5 = M.1 (2, 0, 0) 5 := by unfold nd; rw [zz_gs, if_neg (by simp)]
  have e17 : ∀ i, (nd M).1 (17, 0, 0) i = M.1 (17, 0, 0) i := fun i => by unfold nd; rw [zo (by simp)]
  have e18 : ∀ i, (nd M).1 (18, 0, 0) i = M.1 (18, 0, 0) i := fun i => by unfold nd; rw [zo (by simp)]
  obtain ⟨h1, h2⟩ := h
  refine ⟨fun b => ?_, fun b => ?_⟩
  · obtain ⟨x, y⟩ := h1 b
    refine ⟨?_, y⟩
    rcases x with x | ⟨x, z, u⟩
    · exact Or.inl x
    · refine Or.inr ⟨rfl, ?_, u⟩
      dsimp only at z ⊢
      rw [e7] at z; exact z
  · obtain ⟨c, a1, a2, a3, a4, a5, a6⟩ := h2 b
    dsimp only at a2 a3 a6
    rw [e7] at a2
    rw [e5] at a3
    refine ⟨c, rfl, a2, a3, a4, a5, fun k hk => ?_⟩
    have := a6 k hk
    simp only [e17, e18] at this
    exact this
theorem FL_le {T : Nat → Int32} {n : Nat} : ∀ (f p : Nat) (M : zM) (i : Nat), p + f = n → FL n (cl T f p M) i → i ≤ n
  | 0, p, M, i, h, x => by
    rcases x with x | ⟨_, _, x⟩
    · cases x
    · omega
  | f + 1, p, M, i, h, x => by
    rw [cl] at x
    split at x
    · rcases x with x | ⟨x, _⟩
      · have : p = i := by injection x
        omega
      · cases x
    · exact FL_le f (p + 1) _ i (by omega) x
theorem prl {T : Nat → Int32} {n : Nat} (hn : n ≤ 100) : ∀ (F c w t : Nat) (M Mm : zM), n - mpos Mm < F → ps M c 0 w t 0 → mps Mm T n c → ar M Mm c → ¬ pb T n (mpos Mm) = 32 → 3 * c ≤ mpos Mm → QQ n (m_rl n F Mm) (cl T (n - mpos Mm) (mpos Mm) M)
  | 0, _, _, _, _, _, hF, _, _, _, _, _ => absurd hF (Nat.not_lt_zero _)
  | F + 1, c, w, t, M, Mm, hF, hp, hm, ha, hb, h3 => by
    have m5 := hm.2.2.2.2
    rw [m_rl]
    by_cases hl : mpos Mm < n
    · rw [if_pos hl]
      by_cases hr : (m_rdc Mm n).1 = true
      · rw [if_pos hr]
        refine rdc (p := 0) hn QQ_nd hp hm ha hb hl h3 (fun b => ?_) (fun _ M' w' t' q1 q2 q3 q4 q5 => ?_)
        · rw [hr] at b; cases b
        · exact prl hn F (c + 1) w' t' M' _ (by omega) q1 q2 q3 q4 (by omega)
      · rw [if_neg hr]
        refine rdc (p := 0) hn QQ_nd hp hm ha hb hl h3 (fun b b10 X hX => ?_) (fun b => absurd b hr)
        exact ⟨fun _ => ⟨hX, b10⟩, fun b => absurd b hr⟩
    · rw [if_neg hl, show mpos Mm = n by omega, cl_n]
      obtain ⟨h5, h7, _⟩ := hp
      exact ⟨fun b => absurd b (by simp), fun _ => ⟨c, rfl, h7, h5, hm.2.2.1, by omega, ha⟩⟩
section RU
variable {d : Int} {n n0 : Nat} {M Mm Mc : zM}
theorem parse_q (hn : n ≤ 100) (hl : Mm.1 (6, 0, 0) 5 = nI n) (ht : ∀ i, i < n → M.1 (16, 0, 0) i = Mm.1 (23, 0, 0) i) : QQ n (m_rP Mm n) (sc_pX M n) := by
  obtain ⟨w, hw⟩ := nI_sur (M.1 (2, 0, 0) 8)
  obtain ⟨t, ht9⟩ := nI_sur (M.1 (2, 0, 0) 9)
  have pp : ps (sc_p0 M) 0 0 w t 0 := by
    unfold ps sc_p0
    rw [zz_gs, if_neg (by simp), zz_gs, if_neg (by simp), zz_gs, if_pos ⟨rfl, rfl⟩, zz_gs, if_neg (by simp), zz_gs, if_pos ⟨rfl, rfl⟩, zz_gs, if_neg (by simp), zz_gs, if_neg (by simp), zz_gs, if_neg (by simp), zz_gs, if_neg (by simp), zz_gs, if_neg (by simp), zz_gs, if_neg (by simp), zz_gs, if_pos ⟨rfl, rfl⟩]
    exact ⟨rfl, rfl, hw, ht9, rfl⟩
  have z1 : mps (zz_set (zz_set Mm (6, 0, 0) 10 0) (6, 0, 0) 9 0) (Mm.1 (23, 0, 0)) n 0 ∧ mpos (zz_set (zz_set Mm (6, 0, 0) 10 0) (6, 0, 0) 9 0) = 0 := by
    have e : mpos (zz_set (zz_set Mm (6, 0, 0) 10 0) (6, 0, 0) 9 0) = 0 := by
      show zz_ix ((zz_set _ _ _ _).1 (6, 0, 0) 10) = _
      rw [zz_gs, if_neg (by simp), zz_gs, if_pos ⟨rfl, rfl⟩]; rfl
    refine ⟨⟨?_, ?_, ?_, ?_, by omega⟩, e⟩
    · funext j; rw [zo (by simp), zo (by simp)]
    · rw [zz_gs, if_neg (by simp), zz_gs, if_neg (by simp)]; exact hl
    · rw [zz_gs, if_pos ⟨rfl, rfl⟩]; rfl
    · rw [e, zz_gs, if_neg (by simp), zz_gs, if_pos ⟨rfl, rfl⟩]; rfl
  obtain ⟨z1, z2⟩ := z1
  obtain ⟨s1, s2, s3, s4⟩ := skp_mps hn z1
  rw [z2] at s2
  have e0 : m_r0 Mm n = m_skp (zz_set (zz_set Mm (6, 0, 0) 10 0) (6, 0, 0) 9 0) n := rfl
  rw [← e0] at s1 s2 s3 s4
  have h := prl hn (n + 1) 0 w t (sc_p0 M) (m_r0 Mm n) (by omega) pp s1 (fun k hk => absurd hk (Nat.not_lt_zero _)) s4 (by omega)
  have hc := skip_run (T := Mm.1 (23, 0, 0)) (n := n) (M := sc_p0 M) n 0 (by omega) pp.2.2.2.2
  rw [Nat.sub_zero] at hc s2
  rw [s2, ← hc] at h
  unfold sc_pX m_rP
  rw [cl_eq (T := Mm.1 (23, 0, 0)) n 0 (sc_p0 M) (fun j _ hj => by
    unfold sc_p0
    rw [zo (by simp), zo (by simp), zo (by simp)]
    exact ht j (by omega))]
  exact h
theorem let_c {l : Int32} (h : 1 ≤ zz_ix (pno l)) : (l = 104 ∨ l = 119) ∨ (l = 97 ∨ l = 114 ∨ l = 115 ∨ l = 99 ∨ l = 109) ∨ (l = 103 ∨ l = 98 ∨ l = 112) := by
  by_cases h3 : l = 104 ∨ l = 119
  · exact Or.inl h3
  · by_cases h2 : l = 97 ∨ l = 114 ∨ l = 115 ∨ l = 99 ∨ l = 109
    · exact Or.inr (Or.inl h2)
    · by_cases h1 : l = 103 ∨ l = 98 ∨ l = 112
      · exact Or.inr (Or.inr h1)
      · unfold pno at h
        rw [if_neg h3, if_neg h2, if_neg h1] at h
        exact absurd h (by decide)
theorem x_mk {l a b c : Int32} {k : Nat} (h : Ok d n Mc (Mm.1 (20, 0, 0))) (hD : yD d Mc Mm) (hn : n < 1000000) (hv : 1 ≤ zz_ix (pno l)) (hl : Mm.1 (25, 0, 0) (4 * k) = l)
    (ha : 0 < zz_ix (pno l) → a = Mm.1 (25, 0, 0) (4 * k + 1)) (hb : 1 < zz_ix (pno l) → b = Mm.1 (25, 0, 0) (4 * k + 2)) (hc : 2 < zz_ix (pno l) → c = Mm.1 (25, 0, 0) (4 * k + 3)) :
    (L_mk Mc l a b c).1 = (m_do Mm k).1 ∧ Ok d (n + 1) (L_mk Mc l a b c).2 ((m_do Mm k).2.1 (20, 0, 0)) := by
  have up1 : ∀ {x y : Int32 × zM}, (x.1 = y.1 ∧ Ok d n x.2 (y.2.1 (20, 0, 0))) → (x.1 = y.1 ∧ Ok d (n + 1) x.2 (y.2.1 (20, 0, 0))) := fun z => ⟨z.1, Ok_up z.2 (by omega)⟩
  unfold L_mk m_do
  rw [hl]
  rcases let_c hv with (e | e) | (e | e | e | e | e) | (e | e | e) <;> subst e
  · rw [ha (by decide), hb (by decide), hc (by decide), if_neg (by decide), if_neg (by decide), if_neg (by decide), if_pos rfl, if_neg (by decide), if_neg (by decide), if_neg (by decide), if_pos rfl]
    exact x_handOver h hD hn
  · rw [ha (by decide), hb (by decide), hc (by decide), if_neg (by decide), if_neg (by decide), if_neg (by decide), if_neg (by decide), if_pos rfl, if_neg (by decide), if_neg (by decide), if_neg (by decide), if_neg (by decide), if_neg (by decide), if_neg (by decide), if_neg (by decide), if_pos rfl]
    exact up1 (x_write h hD)
  · rw [ha (by decide), hb (by decide), if_pos rfl, if_pos rfl]
    exact x_acquire h hD hn
  · rw [ha (by decide), hb (by decide), if_neg (by decide), if_pos rfl, if_neg (by decide), if_neg (by decide), if_neg (by decide), if_neg (by decide), if_neg (by decide), if_pos rfl]
    exact up1 (x_renew h hD)
  · rw [ha (by decide), hb (by decide), if_neg (by decide), if_neg (by decide), if_neg (by decide), if_neg (by decide), if_neg (by decide), if_neg (by decide), if_neg (by decide), if_pos rfl, if_neg (by decide), if_neg (by decide), if_neg (by decide), if_neg (by decide), if_neg (by decide), if_neg (by decide), if_pos rfl]
    exact up1 (x_setState h)
  · rw [ha (by decide), hb (by decide), if_neg (by decide), if_neg (by decide), if_neg (by decide), if_neg (by decide), if_neg (by decide), if_neg (by decide), if_neg (by decide), if_neg (by decide), if_pos rfl, if_neg (by decide), if_neg (by decide), if_neg (by decide), if_neg (by decide), if_neg (by decide), if_neg (by decide), if_neg (by decide), if_neg (by decide), if_neg (by decide)]
    exact up1 (x_setLink h)
  · rw [ha (by decide), hb (by decide), if_neg (by decide), if_neg (by decide), if_neg (by decide), if_neg (by decide), if_neg (by decide), if_neg (by decide), if_neg (by decide), if_neg (by decide), if_neg (by decide), if_pos rfl, if_neg (by decide), if_neg (by decide), if_neg (by decide), if_neg (by decide), if_neg (by decide), if_neg (by decide), if_neg (by decide), if_neg (by decide), if_pos rfl]
    exact up1 (x_setLink h)
  · rw [ha (by decide), if_neg (by decide), if_neg (by decide), if_pos rfl, if_neg (by decide), if_neg (by decide), if_pos rfl]
    exact up1 (x_giveUp h hD)
  · rw [ha (by decide), if_neg (by decide), if_neg (by decide), if_neg (by decide), if_neg (by decide), if_neg (by decide), if_pos rfl, if_neg (by decide), if_pos rfl]
    exact up1 (x_barrier h hD)
  · rw [ha (by decide), if_neg (by decide), if_neg (by decide), if_neg (by decide), if_neg (by decide), if_neg (by decide), if_neg (by decide), if_pos rfl, if_neg (by decide), if_neg (by decide), if_neg (by decide), if_neg (by decide), if_pos rfl]
    exact up1 (x_pass h hD)
theorem RV_o {f : Nat → Int32} {M' : zM} (h : Ok d n M f) (hM : ∀ r i, r.1 ≤ 13 → M'.1 r i = M.1 r i) : Ok d n M' f := by
  obtain ⟨⟨⟨a1, a2, a3, a4, a5, a6, a7, a8, a9⟩, hV⟩, hr, hS⟩ := h
  have co : ∀ (r : zR) (k : Nat), r.1 ≤ 13 → M'.1 r k = M.1 r k := hM
  have L : ∀ t, t ≤ 13 → ∀ w j : Nat, ((t, w, j) : zR).1 ≤ 13 := fun t ht w j => ht
  refine ⟨⟨⟨?_, ?_, ?_, ?_, ?_, ?_, ?_, ?_, ?_⟩, hV⟩, ?_, hS⟩
  · exact yT_c a1 (fun i => co _ _ (L 4 (by omega) _ _)) rfl rfl rfl
  · exact yS_c a2 (fun u hu i => co _ _ (L 3 (by omega) _ _)) (fun i hi => rfl)
  · exact yK_c a3 (fun i => co _ _ (L 10 (by omega) _ _)) (fun i _ _ => rfl)
  · exact yL_c a4 (fun u hu => (Vn_len hV hu).2) (fun u hu => co _ _ (L 1 (by omega) _ _)) (fun u hu => co _ _ (L 0 (by omega) _ _)) (fun u hu i => co _ _ (L 7 (by omega) _ _)) (fun i hi => rfl)
  · exact yH_c a5 (Vn_hist hV).2 (co _ _ (L 1 (by omega) _ _)) (co _ _ (L 0 (by omega) _ _)) (fun i => co _ _ (L 7 (by omega) _ _)) (fun i _ _ => rfl)
  · exact yO_c a6 (fun u hu => (Vn_due hV hu).2) (fun u hu => co _ _ (L 1 (by omega) _ _)) (fun u hu i => co _ _ (L 7 (by omega) _ _)) (fun i _ _ => rfl)
  · exact yG_c a7 (Vn_kept hV).2 (co _ _ (L 1 (by omega) _ _)) (fun i => co _ _ (L 7 (by omega) _ _)) (fun i _ _ _ => rfl)
  · exact yC_c a8 (fun i => co _ _ (L 12 (by omega) _ _)) (fun i => co _ _ (L 13 (by omega) _ _)) (fun i _ _ => rfl)
  · exact yM_c a9 (Vn_sent hV).2 (co _ _ (L 1 (by omega) _ _)) (fun i => co _ _ (L 7 (by omega) _ _)) (fun i _ _ => rfl)
  · exact yR_c hr (fun i => co _ _ (L 11 (by omega) _ _)) (fun i _ _ => rfl)
theorem run_loop {X Y : zM} {c : Nat} (hc : c ≤ 34) (h : Ok d n0 X (Y.1 (20, 0, 0))) (hD : yD d X Y) (hn : n0 + 34 < 1000000) (ha : ar X Y c) : ∀ k, k ≤ c →
    Ok d (n0 + k) (zz_it r_1 k X) ((zz_it m_d1 k Y).1 (20, 0, 0)) ∧ yD d (zz_it r_1 k X) (zz_it m_d1 k Y) ∧ (∀ i, i < k → (zz_it r_1 k X).1 (19, 0, 0) i = (zz_it m_d1 k Y).1 (24, 0, 0) i) ∧ (∀ i, (zz_it r_1 k X).1 (17, 0, 0) i = X.1 (17, 0, 0) i) ∧ (∀ i, (zz_it r_1 k X).1 (18, 0, 0) i = X.1 (18, 0, 0) i) ∧ (∀ r i, oc r i = true → ¬ r = (19, 0, 0) → (zz_it r_1 k X).1 r i = X.1 r i)
  | 0, _ => ⟨h, hD, fun i hi => absurd hi (Nat.not_lt_zero _), fun _ => rfl, fun _ => rfl, fun _ _ _ _ => rfl⟩
  | k + 1, hk => by
    obtain ⟨a1, a2, a3, a4, a5, a6⟩ := run_loop hc h hD hn ha k (by omega)
    have y25 : ∀ i, (zz_it m_d1 k Y).1 (25, 0, 0) i = Y.1 (25, 0, 0) i := fun i => m_ds_fr (by simp) (by simp) k Y
    rw [zz_it, zz_it]
    generalize zz_it r_1 k X = A at *
    generalize zz_it m_d1 k Y = B at *
    obtain ⟨⟨b1, b2⟩, b3⟩ := ha k (by omega)
    have st := x_mk (l := A.1 (17, 0, 0) k) (a := A.1 (18, 0, 0) (3 * k)) (b := A.1 (18, 0, 0) (3 * k + 1)) (c := A.1 (18, 0, 0) (3 * k + 2)) (k := k) a1 a2 (by omega) (by rw [a4]; exact b2) (by rw [y25, a4]; exact b1.symm)
      (fun z => by rw [a4] at z; rw [a5, y25]; exact b3 0 z) (fun z => by rw [a4] at z; rw [a5, y25]; exact b3 1 z) (fun z => by rw [a4] at z; rw [a5, y25]; exact b3 2 z)
    have fr1 := L_mk_fr (M := A) (l := A.1 (17, 0, 0) k) (a := A.1 (18, 0, 0) (3 * k)) (b := A.1 (18, 0, 0) (3 * k + 1)) (c := A.1 (18, 0, 0) (3 * k + 2))
    have fr2 := m_do_fr (M := B) (k := k)
    unfold r_1 m_d1
    generalize L_mk A (A.1 (17, 0, 0) k) (A.1 (18, 0, 0) (3 * k)) (A.1 (18, 0, 0) (3 * k + 1)) (A.1 (18, 0, 0) (3 * k + 2)) = U at *
    generalize m_do B k = W at *
    have e20 : (zz_set W.2 (24, 0, 0) k W.1).1 (20, 0, 0) = W.2.1 (20, 0, 0) := by funext i; rw [zo (by simp)]
    rw [e20]
    refine ⟨RV_o st.2 (fun r i hr => zo (fun z => by rw [z] at hr; exact absurd (show 19 ≤ 13 from hr) (by decide))), yD_c a2 ?_ ?_, fun i hi => ?_, fun i => ?_, fun i => ?_, fun r i ho hr => ?_⟩
    · rw [zo (by simp)]; exact fr1.2 _ _ rfl
    · rw [zo (by simp)]; exact fr2.2 _ _ (by decide)
    · by_cases z : i = k
      · subst z
        rw [zz_gs, if_pos ⟨rfl, rfl⟩, zz_gs, if_pos ⟨rfl, rfl⟩]; exact st.1
      · rw [zz_gs, if_neg (fun y => z y.2), zz_gs, if_neg (fun y => z y.2), fr1.2 _ _ rfl, fr2.2 _ _ (by decide)]
        exact a3 i (by omega)
    · rw [zo (by simp), fr1.2 _ _ rfl]; exact a4 i
    · rw [zo (by simp), fr1.2 _ _ rfl]; exact a5 i
    · rw [zo hr, fr1.2 _ _ ho]; exact a6 r i ho hr
end RU
