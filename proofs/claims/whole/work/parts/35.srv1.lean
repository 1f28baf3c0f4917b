def up (f : Nat → Int32) (i : Nat) (x : Int32) : Nat → Int32 := fun j => if j = i then x else f j
theorem up_e (f : Nat → Int32) (i : Nat) (x : Int32) : up f i x i = x := if_pos rfl
theorem up_n {f : Nat → Int32} {i j : Nat} {x : Int32} (h : ¬ j = i) : up f i x j = f j := if_neg h
theorem qs_f (M : zM) (i : Nat) (x : Int32) : (qs M i x).1 (20, 0, 0) = up (M.1 (20, 0, 0)) i x := by
  funext j
  rw [qg]; rfl
theorem fl_up {f : Nat → Int32} {i j : Nat} {x : Int32} (h : ¬ j = i) : fl (up f i x) j = fl f j := fl_c (up_n h)
/-- only servers and reasons change -/
def cS (M M' : zM) : Prop := ∀ r i, ¬ r.1 = 3 → ¬ r.1 = 11 → M'.1 r i = M.1 r i
theorem cS_rfl {M : zM} : cS M M := fun _ _ _ _ => rfl
theorem cS_tr {M M' M2 : zM} (h : cS M M') (h2 : cS M' M2) : cS M M2 := fun r i a b => (h2 r i a b).trans (h r i a b)
theorem cS_s {M M' : zM} {r0 : zR} {k : Nat} {v : Int32} (h : cS M M') (hr : r0.1 = 3 ∨ r0.1 = 11) : cS M (zz_set M' r0 k v) := fun r i a b => by
  rw [zz_gs, if_neg]
  · exact h r i a b
  · rintro ⟨rfl, -⟩
    rcases hr with x | x
    · exact a x
    · exact b x
theorem cS_pp {M M' : zM} {v : Nat} {a b : Int32} (h : cS M M') : cS M (se_pp M' 0 v a b) := cS_s (cS_s h (Or.inl rfl)) (Or.inl rfl)
theorem cS_pl {M M' : zM} {v : Nat} {a b : Int32} (h : cS M M') : cS M (se_pl M' 0 v a b) := cS_s (cS_s h (Or.inl rfl)) (Or.inl rfl)
def sR (i : Nat) : Prop := (1 ≤ i ∧ i < 11) ∨ (36 ≤ i ∧ i < 51) ∨ (61 ≤ i ∧ i < 71)
theorem yRel_S {d : Int} {n : Nat} {M M' : zM} {f f' : Nat → Int32} (h : yRel 0 M f) (hV : Vn d n f) (hM : cS M M') (hf : ∀ i, i < 1729 → ¬ sR i → f' i = f i) (hS : yS 0 M' f') : yRel 0 M' f' := by
  obtain ⟨a1, a2, a3, a4, a5, a6, a7, a8, a9⟩ := h
  have n1 : ∀ i, i < 1729 → ¬ sR i → f' i = f i := hf
  have k3 : ∀ {r : zR} (i : Nat), ¬ r.1 = 3 → ¬ r.1 = 11 → M'.1 r i = M.1 r i := fun i x y => hM _ i x y
  refine ⟨yT_c a1 (fun i => k3 i (show ¬ 4 = 3 by decide) (show ¬ 4 = 11 by decide)) (hf _ (by decide) (by unfold sR; omega)) (hf _ (by decide) (by unfold sR; omega)) (hf _ (by decide) (by unfold sR; omega)), hS, ?_, ?_, ?_, ?_, ?_, ?_, ?_⟩
  · exact yK_c a3 (fun i => k3 i (show ¬ 10 = 3 by decide) (show ¬ 10 = 11 by decide)) (fun i x y => hf i (by omega) (by unfold sR; omega))
  · exact yL_c a4 (fun s hs => (Vn_len hV hs).2) (fun s hs => k3 _ (show ¬ 1 = 3 by decide) (show ¬ 1 = 11 by decide)) (fun s hs => k3 _ (show ¬ 0 = 3 by decide) (show ¬ 0 = 11 by decide)) (fun s hs i => k3 _ (show ¬ 7 = 3 by decide) (show ¬ 7 = 11 by decide)) (fun i x => hf i (by omega) (by unfold sR; omega))
  · exact yH_c a5 (Vn_hist hV).2 (k3 _ (show ¬ 1 = 3 by decide) (show ¬ 1 = 11 by decide)) (k3 _ (show ¬ 0 = 3 by decide) (show ¬ 0 = 11 by decide)) (fun i => k3 _ (show ¬ 7 = 3 by decide) (show ¬ 7 = 11 by decide)) (fun i x y => hf i (by omega) (by unfold sR; omega))
  · exact yO_c a6 (fun s hs => (Vn_due hV hs).2) (fun s hs => k3 _ (show ¬ 1 = 3 by decide) (show ¬ 1 = 11 by decide)) (fun s hs i => k3 _ (show ¬ 7 = 3 by decide) (show ¬ 7 = 11 by decide)) (fun i x y => hf i (by omega) (by unfold sR; omega))
  · exact yG_c a7 (Vn_kept hV).2 (k3 _ (show ¬ 1 = 3 by decide) (show ¬ 1 = 11 by decide)) (fun i => k3 _ (show ¬ 7 = 3 by decide) (show ¬ 7 = 11 by decide)) (fun i x y z => hf i (by omega) (by unfold sR; omega))
  · exact yC_c a8 (fun i => k3 _ (show ¬ 12 = 3 by decide) (show ¬ 12 = 11 by decide)) (fun i => k3 _ (show ¬ 13 = 3 by decide) (show ¬ 13 = 11 by decide)) (fun i x y => hf i (by omega) (by unfold sR; omega))
  · exact yM_c a9 (Vn_sent hV).2 (k3 _ (show ¬ 1 = 3 by decide) (show ¬ 1 = 11 by decide)) (fun i => k3 _ (show ¬ 7 = 3 by decide) (show ¬ 7 = 11 by decide)) (fun i x y => hf i (by omega) (by unfold sR; omega))
def Vs (d : Int) (n : Nat) (f : Nat → Int32) (s : Nat) : Prop := (-d ≤ (f (1 + s)).toInt ∧ (f (1 + s)).toInt ≤ d) ∧ (0 ≤ (f (36 + s)).toInt ∧ (f (36 + s)).toInt ≤ n) ∧ (f (41 + s) = -1000 ∨ ∃ u, u < 5 ∧ f (41 + s) = nI u) ∧ (-100 ≤ (f (46 + s)).toInt ∧ (f (46 + s)).toInt ≤ 100200) ∧ (0 ≤ (f (61 + s)).toInt ∧ (f (61 + s)).toInt ≤ n)
theorem Vn_S {d : Int} {n : Nat} {f f' : Nat → Int32} (h : Vn d n f) (hf : ∀ i, i < 1729 → ¬ sR i → f' i = f i) (hs : ∀ s, s < 5 → Vs d n f' s) : Vn d n f' := by
  obtain ⟨a1, a2, a3, a4⟩ := h
  have e1 : fl f' 1647 = fl f 1647 := fl_c (hf _ (by decide) (by unfold sR; omega))
  refine ⟨fun i hi => ?_, by rw [hf 0 (by decide) (by unfold sR; omega)]; exact a2, hs, fun k hk => ?_⟩
  · have e : f' i = f i := hf i (by unfold mwi at hi; omega) (by unfold mwi at hi; unfold sR; omega)
    rw [fl_c e, e]
    exact a1 i hi
  · rw [e1] at hk
    have b := (a1 1647 (by unfold mwi; omega)).2
    have b2 : mwb 1647 = 20 := by decide
    rw [hf _ (by omega) (by unfold sR; omega), hf _ (by omega) (by unfold sR; omega)]
    exact a4 k hk
theorem Vn_up {d : Int} {n n' : Nat} {f : Nat → Int32} (h : Vn d n f) (hn : n ≤ n') : Vn d n' f := by
  obtain ⟨a1, a2, a3, a4⟩ := h
  refine ⟨a1, a2, fun s hs => ?_, a4⟩
  obtain ⟨b1, b2, b3, b4, b5⟩ := a3 s hs
  exact ⟨b1, ⟨b2.1, by omega⟩, b3, b4, ⟨b5.1, by omega⟩⟩
def RV (d : Int) (n : Nat) (M : zM) (f : Nat → Int32) : Prop := yRel 0 M f ∧ Vn d n f
theorem rv_S {d : Int} {n : Nat} {M M' : zM} {f f' : Nat → Int32} (h : RV d n M f) (hM : cS M M') (hf : ∀ i, i < 1729 → ¬ sR i → f' i = f i) (s : Nat)
    (ho : ∀ u, u < 5 → ¬ u = s → (∀ i, M'.1 (3, 0, u) i = M.1 (3, 0, u) i) ∧ ∀ b, b = 1 ∨ b = 6 ∨ b = 36 ∨ b = 41 ∨ b = 46 ∨ b = 61 ∨ b = 66 → f' (b + u) = f (b + u))
    (hs : s < 5 → yS1 0 M' f' s ∧ Vs d n f' s) : RV d n M' f' := by
  refine ⟨yRel_S h.1 h.2 hM hf (fun u hu => ?_), Vn_S h.2 hf (fun u hu => ?_)⟩
  · by_cases e : u = s
    · subst e; exact (hs hu).1
    · obtain ⟨x, y⟩ := ho u hu e
      have := h.1.2.1 u hu
      unfold yS1 at this ⊢
      rw [x, x, x, x, x, x, x, y 1 (by omega), y 6 (by omega), y 36 (by omega), y 41 (by omega), y 46 (by omega), y 61 (by omega), y 66 (by omega)]
      exact this
  · by_cases e : u = s
    · subst e; exact (hs hu).2
    · obtain ⟨x, y⟩ := ho u hu e
      have := h.2.2.2.1 u hu
      unfold Vs
      rw [y 1 (by omega), y 36 (by omega), y 41 (by omega), y 46 (by omega), y 61 (by omega)]
      exact this
section RV1
variable {d : Int} {n s v : Nat} {M : zM} {f : Nat → Int32} {x y e t : Int32}
theorem g3o {u k i : Nat} (h : ¬ u = s) : (zz_set M (3, 0, s) k x).1 (3, 0, u) i = M.1 (3, 0, u) i := by
  rw [zz_gs, if_neg]
  rintro ⟨a, -⟩
  exact h (by injection a with _ a; injection a)
theorem g3e {k i : Nat} (h : ¬ i = k) : (zz_set M (3, 0, s) k x).1 (3, 0, s) i = M.1 (3, 0, s) i := by
  rw [zz_gs, if_neg (fun z => h z.2)]
theorem g3s {k : Nat} {r : zR} : (zz_set M r k x).1 r k = x := by
  rw [zz_gs, if_pos ⟨rfl, rfl⟩]
theorem rv_term (h : RV d n M f) (hs : s < 5) (hx : 0 ≤ x.toInt ∧ x.toInt ≤ n) : RV d n (zz_set M (3, 0, s) 4 x) (up f (36 + s) x) := by
  refine rv_S h (cS_s cS_rfl (Or.inl rfl)) (fun i hi hn => up_n (by unfold sR at hn; omega)) s (fun u hu hn => ⟨fun i => g3o hn, fun b hb => up_n (by omega)⟩) (fun _ => ?_)
  obtain ⟨a1, a2, a3, a4, a5, a6, a7⟩ := h.1.2.1 s hs
  obtain ⟨b1, b2, b3, b4, b5⟩ := h.2.2.2.1 s hs
  constructor
  · unfold yS1
    rw [g3e (by decide), g3e (by decide), g3s, g3e (by decide), g3e (by decide), g3e (by decide), g3e (by decide), up_e, up_n (by omega), up_n (by omega), up_n (by omega), up_n (by omega), up_n (by omega), up_n (by omega)]
    exact ⟨a1, a2, rfl, a4, a5, a6, a7⟩
  · unfold Vs
    rw [up_e, up_n (by omega), up_n (by omega), up_n (by omega), up_n (by omega)]
    exact ⟨b1, hx, b3, b4, b5⟩
theorem rv_off (h : RV d n M f) (hs : s < 5) (hx : -d ≤ x.toInt ∧ x.toInt ≤ d) : RV d n (zz_set M (3, 0, s) 2 x) (up f (1 + s) x) := by
  refine rv_S h (cS_s cS_rfl (Or.inl rfl)) (fun i hi hn => up_n (by unfold sR at hn; omega)) s (fun u hu hn => ⟨fun i => g3o hn, fun b hb => up_n (by omega)⟩) (fun _ => ?_)
  obtain ⟨a1, a2, a3, a4, a5, a6, a7⟩ := h.1.2.1 s hs
  obtain ⟨b1, b2, b3, b4, b5⟩ := h.2.2.2.1 s hs
  constructor
  · unfold yS1
    rw [g3s, g3e (by decide), g3e (by decide), g3e (by decide), g3e (by decide), g3e (by decide), g3e (by decide), up_e, up_n (by omega), up_n (by omega), up_n (by omega), up_n (by omega), up_n (by omega), up_n (by omega)]
    exact ⟨rfl, a2, a3, a4, a5, a6, a7⟩
  · unfold Vs
    rw [up_e, up_n (by omega), up_n (by omega), up_n (by omega), up_n (by omega)]
    exact ⟨hx, b2, b3, b4, b5⟩
theorem rv_state (h : RV d n M f) (hs : s < 5) : RV d n (zz_set M (3, 0, s) 3 x) (up f (6 + s) x) := by
  refine rv_S h (cS_s cS_rfl (Or.inl rfl)) (fun i hi hn => up_n (by unfold sR at hn; omega)) s (fun u hu hn => ⟨fun i => g3o hn, fun b hb => up_n (by omega)⟩) (fun _ => ?_)
  obtain ⟨a1, a2, a3, a4, a5, a6, a7⟩ := h.1.2.1 s hs
  obtain ⟨b1, b2, b3, b4, b5⟩ := h.2.2.2.1 s hs
  constructor
  · unfold yS1
    rw [g3e (by decide), g3s, g3e (by decide), g3e (by decide), g3e (by decide), g3e (by decide), g3e (by decide), up_e, up_n (by omega), up_n (by omega), up_n (by omega), up_n (by omega), up_n (by omega), up_n (by omega)]
    exact ⟨a1, rfl, a3, a4, a5, a6, a7⟩
  · unfold Vs
    rw [up_n (by omega), up_n (by omega), up_n (by omega), up_n (by omega), up_n (by omega)]
    exact ⟨b1, b2, b3, b4, b5⟩
theorem ne_m1000 {u : Nat} (hu : u < 100000) : ¬ nI u = (-1000 : Int32) := by
  rw [ni_eq, ni_n (by omega), n_m1000]
  omega
theorem rv_prom (h : RV d n M f) (hv : v < 5) (hs : s < 5) (he : -100 ≤ e.toInt ∧ e.toInt ≤ 100200) : RV d n (se_pp M 0 v (nI s) e) (up (up f (41 + v) (nI s)) (46 + v) e) := by
  refine rv_S h (cS_pp cS_rfl) (fun i hi hn => by rw [up_n (by unfold sR at hn; omega), up_n (by unfold sR at hn; omega)]) v (fun u hu hn => ⟨fun i => by unfold se_pp; rw [g3o hn, g3o hn], fun b hb => by rw [up_n (by omega), up_n (by omega)]⟩) (fun _ => ?_)
  obtain ⟨a1, a2, a3, a4, a5, a6, a7⟩ := h.1.2.1 v hv
  obtain ⟨b1, b2, b3, b4, b5⟩ := h.2.2.2.1 v hv
  constructor
  · unfold yS1 se_pp
    rw [g3e (by decide), g3e (by decide), g3e (by decide), g3e (by decide), g3e (by decide), g3e (by decide), g3e (by decide), g3s, g3s, g3e (by decide), g3e (by decide), g3e (by decide), g3e (by decide)]
    rw [up_n (by omega), up_n (by omega), up_n (by omega), up_n (by omega), up_n (by omega), up_n (by omega), up_n (i := 46 + v) (j := 41 + v) (by omega), up_e, up_e, up_n (by omega), up_n (by omega), up_n (by omega), up_n (by omega), if_neg (ne_m1000 (by omega))]
    exact ⟨a1, a2, a3, rfl, rfl, a6, a7⟩
  · unfold Vs
    rw [up_n (by omega), up_n (by omega), up_n (by omega), up_n (by omega), up_n (i := 46 + v) (j := 41 + v) (by omega), up_e, up_e, up_n (by omega), up_n (by omega)]
    exact ⟨b1, b2, Or.inr ⟨s, hs, rfl⟩, he, b5⟩
theorem rv_promN (h : RV d n M f) (hv : v < 5) : RV d n (se_pp M 0 v (-1000) (-1000)) (up f (41 + v) (-1000)) := by
  refine rv_S h (cS_pp cS_rfl) (fun i hi hn => up_n (by unfold sR at hn; omega)) v (fun u hu hn => ⟨fun i => by unfold se_pp; rw [g3o hn, g3o hn], fun b hb => up_n (by omega)⟩) (fun _ => ?_)
  obtain ⟨a1, a2, a3, a4, a5, a6, a7⟩ := h.1.2.1 v hv
  obtain ⟨b1, b2, b3, b4, b5⟩ := h.2.2.2.1 v hv
  constructor
  · unfold yS1 se_pp
    rw [g3e (by decide), g3e (by decide), g3e (by decide), g3e (by decide), g3e (by decide), g3e (by decide), g3e (by decide), g3s, g3s, g3e (by decide), g3e (by decide), g3e (by decide), g3e (by decide)]
    rw [up_n (by omega), up_n (by omega), up_n (by omega), up_e, up_n (by omega), up_n (by omega), up_n (by omega), if_pos rfl]
    exact ⟨a1, a2, a3, rfl, rfl, a6, a7⟩
  · unfold Vs
    rw [up_n (by omega), up_n (by omega), up_e, up_n (by omega), up_n (by omega)]
    exact ⟨b1, b2, Or.inl rfl, b4, b5⟩
theorem rv_lease (h : RV d n M f) (hs : s < 5) (ht : 0 < t.toInt ∧ t.toInt ≤ n) : RV d n (se_pl M 0 s t e) (up (up f (61 + s) t) (66 + s) e) := by
  refine rv_S h (cS_pl cS_rfl) (fun i hi hn => by rw [up_n (by unfold sR at hn; omega), up_n (by unfold sR at hn; omega)]) s (fun u hu hn => ⟨fun i => by unfold se_pl; rw [g3o hn, g3o hn], fun b hb => by rw [up_n (by omega), up_n (by omega)]⟩) (fun _ => ?_)
  obtain ⟨a1, a2, a3, a4, a5, a6, a7⟩ := h.1.2.1 s hs
  obtain ⟨b1, b2, b3, b4, b5⟩ := h.2.2.2.1 s hs
  have t0 : ¬ t = 0 := by rw [ni_eq, n_0]; omega
  constructor
  · unfold yS1 se_pl
    rw [g3e (by decide), g3e (by decide), g3e (by decide), g3e (by decide), g3e (by decide), g3e (by decide), g3e (by decide), g3e (by decide), g3e (by decide), g3e (by decide), g3e (by decide), g3s, g3s]
    rw [up_n (by omega), up_n (by omega), up_n (by omega), up_n (by omega), up_n (by omega), up_n (by omega), up_n (by omega), up_n (by omega), up_n (by omega), up_n (by omega), up_n (i := 66 + s) (j := 61 + s) (by omega), up_e, up_e, if_neg t0, if_neg t0]
    exact ⟨a1, a2, a3, a4, a5, rfl, rfl⟩
  · unfold Vs
    rw [up_n (by omega), up_n (by omega), up_n (by omega), up_n (by omega), up_n (by omega), up_n (by omega), up_n (by omega), up_n (by omega), up_n (i := 66 + s) (j := 61 + s) (by omega), up_e]
    exact ⟨b1, b2, b3, b4, ⟨by omega, ht.2⟩⟩
theorem rv_leaseN (h : RV d n M f) (hs : s < 5) : RV d n (se_pl M 0 s (-1000) (-1000)) (up f (61 + s) 0) := by
  refine rv_S h (cS_pl cS_rfl) (fun i hi hn => up_n (by unfold sR at hn; omega)) s (fun u hu hn => ⟨fun i => by unfold se_pl; rw [g3o hn, g3o hn], fun b hb => up_n (by omega)⟩) (fun _ => ?_)
  obtain ⟨a1, a2, a3, a4, a5, a6, a7⟩ := h.1.2.1 s hs
  obtain ⟨b1, b2, b3, b4, b5⟩ := h.2.2.2.1 s hs
  constructor
  · unfold yS1 se_pl
    rw [g3e (by decide), g3e (by decide), g3e (by decide), g3e (by decide), g3e (by decide), g3e (by decide), g3e (by decide), g3e (by decide), g3e (by decide), g3e (by decide), g3e (by decide), g3s, g3s]
    rw [up_n (by omega), up_n (by omega), up_n (by omega), up_n (by omega), up_n (by omega), up_e, if_pos rfl, if_pos rfl]
    exact ⟨a1, a2, a3, a4, a5, rfl, rfl⟩
  · unfold Vs
    rw [up_n (by omega), up_n (by omega), up_n (by omega), up_n (by omega), up_e]
    exact ⟨b1, b2, b3, b4, ⟨by decide, by rw [n_0]; omega⟩⟩
theorem rv_end0 (h : RV d n M f) (hs : s < 5) (h0 : f (61 + s) = 0) : RV d n M (up f (66 + s) e) := by
  refine rv_S h cS_rfl (fun i hi hn => up_n (by unfold sR at hn; omega)) s (fun u hu hn => ⟨fun i => rfl, fun b hb => up_n (by omega)⟩) (fun _ => ?_)
  obtain ⟨a1, a2, a3, a4, a5, a6, a7⟩ := h.1.2.1 s hs
  obtain ⟨b1, b2, b3, b4, b5⟩ := h.2.2.2.1 s hs
  constructor
  · unfold yS1
    rw [up_n (by omega), up_n (by omega), up_n (by omega), up_n (by omega), up_n (by omega), up_n (by omega), up_e, if_pos h0, if_pos h0]
    rw [if_pos h0] at a6 a7
    exact ⟨a1, a2, a3, a4, a5, a6, a7⟩
  · unfold Vs
    rw [up_n (by omega), up_n (by omega), up_n (by omega), up_n (by omega), up_n (by omega)]
    exact ⟨b1, b2, b3, b4, b5⟩
theorem rv_end (h : RV d n M f) (hs : s < 5) (h0 : ¬ f (61 + s) = 0) : RV d n (zz_set M (3, 0, s) 8 e) (up f (66 + s) e) := by
  refine rv_S h (cS_s cS_rfl (Or.inl rfl)) (fun i hi hn => up_n (by unfold sR at hn; omega)) s (fun u hu hn => ⟨fun i => g3o hn, fun b hb => up_n (by omega)⟩) (fun _ => ?_)
  obtain ⟨a1, a2, a3, a4, a5, a6, a7⟩ := h.1.2.1 s hs
  obtain ⟨b1, b2, b3, b4, b5⟩ := h.2.2.2.1 s hs
  constructor
  · unfold yS1
    rw [g3e (by decide), g3e (by decide), g3e (by decide), g3e (by decide), g3e (by decide), g3e (by decide), g3s]
    rw [up_n (by omega), up_n (by omega), up_n (by omega), up_n (by omega), up_n (by omega), up_n (by omega), up_e, if_neg h0, if_neg h0]
    rw [if_neg h0] at a6
    exact ⟨a1, a2, a3, a4, a5, a6, rfl⟩
  · unfold Vs
    rw [up_n (by omega), up_n (by omega), up_n (by omega), up_n (by omega), up_n (by omega)]
    exact ⟨b1, b2, b3, b4, b5⟩
theorem rv_f (h : RV d n M f) {i : Nat} (hi : 1729 ≤ i) : RV d n M (up f i y) := by
  refine rv_S h cS_rfl (fun j hj hn => up_n (by omega)) 5 (fun u hu hn => ⟨fun i => rfl, fun b hb => up_n (by omega)⟩) (fun h => absurd h (by omega))
theorem rv_reas (h : RV d n M f) (hv : v < 5) : RV d n (zz_set M (11, 0, 0) v x) (up f (1729 + v) y) := by
  refine rv_S h (cS_s cS_rfl (Or.inr rfl)) (fun j hj hn => up_n (by omega)) 5 (fun u hu hn => ⟨fun i => ?_, fun b hb => up_n (by omega)⟩) (fun h => absurd h (by omega))
  rw [zz_gs, if_neg]
  rintro ⟨a, -⟩
  injection a with a; cases a
end RV1
