def nd (M : zM) : zM := zz_set M (2, 0, 0) 10 0
def cl (T : Nat → Int32) : Nat → Nat → zM → Option Nat × zM
  | 0, _, M => (none, M)
  | f + 1, i, M => if (sc_tk M (T i)).1 = 0 then (some i, (sc_tk M (T i)).2) else cl T f (i + 1) (sc_tk M (T i)).2
/-- what a parsing leaves alone -/
def scf (M M' : zM) : Prop := M'.2 = M.2 ∧ ∀ r i, ¬ r = (17, 0, 0) → ¬ r = (18, 0, 0) → ¬ (r = (2, 0, 0) ∧ 5 ≤ i ∧ ¬ i = 6) → M'.1 r i = M.1 r i
theorem scf_rfl {M : zM} : scf M M := ⟨rfl, fun _ _ _ _ _ => rfl⟩
theorem scf_tr {M M' M2 : zM} (h : scf M M') (h2 : scf M' M2) : scf M M2 := ⟨h2.1.trans h.1, fun r i a b c => (h2.2 r i a b c).trans (h.2 r i a b c)⟩
theorem scf_2 {M M' : zM} {k : Nat} {v : Int32} (h : scf M M') (hk : 5 ≤ k ∧ ¬ k = 6) : scf M (zz_set M' (2, 0, 0) k v) := ⟨h.1, fun r i a b c => by
  rw [zz_gs, if_neg (fun z => c ⟨z.1, by rw [z.2]; exact hk⟩)]; exact h.2 r i a b c⟩
theorem scf_17 {M M' : zM} {k : Nat} {v : Int32} (h : scf M M') : scf M (zz_set M' (17, 0, 0) k v) := ⟨h.1, fun r i a b c => by
  rw [zz_gs, if_neg (fun z => a z.1)]; exact h.2 r i a b c⟩
theorem scf_18 {M M' : zM} {k : Nat} {v : Int32} (h : scf M M') : scf M (zz_set M' (18, 0, 0) k v) := ⟨h.1, fun r i a b c => by
  rw [zz_gs, if_neg (fun z => b z.1)]; exact h.2 r i a b c⟩
theorem sc_tk_f {M M' : zM} {l : Int32} (h : scf M M') : scf M (sc_tk M' l).2 := by
  unfold sc_tk sc_td sc_ec sc_bc sc_d1
  split
  · split
    · exact h
    · split
      · exact scf_2 (scf_2 h (by omega)) (by omega)
      · exact scf_18 (scf_2 (scf_2 h (by omega)) (by omega))
  · split
    · exact scf_2 h (by omega)
    · split
      · split
        · exact scf_2 h (by omega)
        · exact scf_2 (scf_2 (scf_2 h (by omega)) (by omega)) (by omega)
      · split
        · exact scf_2 (scf_2 h (by omega)) (by omega)
        · exact scf_2 (scf_2 (scf_17 (scf_2 (scf_2 h (by omega)) (by omega))) (by omega)) (by omega)
theorem sc_pl_f {M : zM} : ∀ (f i : Nat) (M' : zM), scf M M' → scf M (sc_pl f i M').2
  | 0, _, _, h => h
  | f + 1, i, M', h => by
    rw [sc_pl]
    split
    · exact sc_tk_f h
    · exact sc_pl_f f (i + 1) _ (sc_tk_f h)
theorem cl_eq {T : Nat → Int32} : ∀ (f i : Nat) (M : zM), (∀ j, i ≤ j → j < i + f → M.1 (16, 0, 0) j = T j) → sc_pl f i M = cl T f i M
  | 0, _, _, _ => rfl
  | f + 1, i, M, h => by
    rw [sc_pl, cl, h i (by omega) (by omega), cl_eq (T := T) f (i + 1) _ (fun j a b => by
      rw [(sc_tk_f (M := M) scf_rfl).2 _ _ (by simp) (by simp) (fun z => absurd z.1 (by simp))]
      exact h j (by omega) (by omega))]
theorem set_same {M : zM} {r : zR} {k : Nat} {v : Int32} (h : M.1 r k = v) : zz_set M r k v = M := by
  refine Prod.ext ?_ rfl
  funext r' i
  rw [zz_gs]
  split
  · next z => rw [z.1, z.2, h]
  · rfl
theorem set_set {M : zM} {r : zR} {k : Nat} {v x : Int32} : zz_set (zz_set M r k v) r k x = zz_set M r k x := by
  refine Prod.ext ?_ rfl
  funext r' i
  rw [zz_gs, zz_gs, zz_gs]
  split <;> rfl
def ps (M : zM) (c b w t g : Nat) : Prop := M.1 (2, 0, 0) 5 = nI c ∧ M.1 (2, 0, 0) 7 = nI b ∧ M.1 (2, 0, 0) 8 = nI w ∧ M.1 (2, 0, 0) 9 = nI t ∧ M.1 (2, 0, 0) 10 = nI g
def FL (n : Nat) (X : Option Nat × zM) (p : Nat) : Prop := X.1 = some p ∨ (X.1 = none ∧ ¬ X.2.1 (2, 0, 0) 7 = 0 ∧ p = n)
def numM (M : zM) (c t g : Nat) (v : Int32) : zM := zz_set (zz_set (zz_set M (2, 0, 0) 9 (nI (t + 1))) (2, 0, 0) 10 (nI g)) (18, 0, 0) (3 * c + t) v
section PR
variable {T : Nat → Int32} {n p c w t g : Nat} {M Mm : zM} {v x l : Int32}
theorem cl_n : cl T (n - n) n M = (none, M) := by rw [Nat.sub_self]; rfl
theorem cl_s (hp : p < n) : cl T (n - p) p M = if (sc_tk M (T p)).1 = 0 then (some p, (sc_tk M (T p)).2) else cl T (n - (p + 1)) (p + 1) (sc_tk M (T p)).2 := by
  rw [show n - p = (n - (p + 1)) + 1 by omega, cl]
theorem i_eq {a b : Nat} (ha : a < 100000) (hb : b < 100000) : (nI a = nI b) = (a = b) := ni_eqn (by omega) (by omega)
theorem nI_00 : nI 0 = 0 := rfl
theorem td_A (h : ps M c 1 w t 0) (ht : t < w) (hc : 3 * c + t ≤ 101) (hw : w ≤ 3) : sc_td M x = (1, numM M c t 1 x) := by
  obtain ⟨h5, h7, h8, h9, h10⟩ := h
  have ea : sc_at M = nI (3 * c + t) := by
    unfold sc_at
    rw [h5, h9, h10, if_pos nI_00, show (3 : Int32) = nI 3 from rfl, show (1 : Int32) = nI 1 from rfl, pk_mul, nI_add, nI_add, ni_subn (by omega)]
    exact congrArg nI (by omega)
  unfold sc_td
  rw [if_neg, ea, if_neg, zz_ixn (by omega), h10, if_pos nI_00, Int32.zero_add]
  · unfold sc_d1 numM
    rw [h10, h9, if_pos nI_00, nI_1]
    rfl
  · rw [show (0 : Int32) = nI 0 from rfl, show (101 : Int32) = nI 101 from rfl, ni_ltn (by omega) (by omega), ni_ltn (by omega) (by omega)]
    omega
  · rw [h7, h8, h9, h10, show (0 : Int32) = nI 0 from rfl, show (3 : Int32) = nI 3 from rfl, i_eq (by omega) (by omega), i_eq (by omega) (by omega), i_eq (by omega) (by omega), i_eq (by omega) (by omega)]
    omega
theorem num_ps (h : ps M c 1 w t 0) : ps (numM M c t g v) c 1 w (t + 1) g := by
  obtain ⟨h5, h7, h8, h9, h10⟩ := h
  unfold ps numM
  simp [zz_gs, h5, h7, h8]
theorem num_18 : (numM M c t g v).1 (18, 0, 0) (3 * c + t) = v := by
  unfold numM; rw [zz_gs, if_pos ⟨rfl, rfl⟩]
theorem num_o {r : zR} {i : Nat} (h1 : ¬ r = (2, 0, 0)) (h2 : ¬ (r = (18, 0, 0) ∧ i = 3 * c + t)) : (numM M c t g v).1 r i = M.1 r i := by
  unfold numM; rw [zz_gs, if_neg h2, zo h1, zo h1]
theorem num_num {g2 : Nat} {v2 : Int32} : zz_set (zz_set (zz_set (numM M c t g v) (2, 0, 0) 9 (nI (t + 1))) (2, 0, 0) 10 (nI g2)) (18, 0, 0) (3 * c + t) v2 = numM M c t g2 v2 := by
  refine Prod.ext ?_ rfl
  funext r i
  unfold numM
  rw [zz_gs, zz_gs, zz_gs, zz_gs, zz_gs, zz_gs, zz_gs, zz_gs, zz_gs]
  by_cases a : r = (18, 0, 0) ∧ i = 3 * c + t
  · rw [if_pos a, if_pos a]
  · rw [if_neg a, if_neg a, if_neg a]
    by_cases b : r = (2, 0, 0) ∧ i = 10
    · rw [if_pos b, if_pos b]
    · rw [if_neg b, if_neg b, if_neg b]
      by_cases e : r = (2, 0, 0) ∧ i = 9
      · rw [if_pos e, if_pos e]
      · rw [if_neg e, if_neg e]
theorem td_B (h : ps M c 1 w t 0) (hg : g = 1 ∨ g = 2) (hc : 3 * c + t ≤ 101) : sc_td (numM M c t g v) x = (1, numM M c t (g + 1) (v * 10 + x)) := by
  obtain ⟨h5, h7, h8, h9, h10⟩ := num_ps (g := g) (v := v) h
  have g0 : ¬ nI g = 0 := by rw [show (0 : Int32) = nI 0 from rfl, i_eq (by omega) (by omega)]; omega
  have ea : sc_at (numM M c t g v) = nI (3 * c + t) := by
    unfold sc_at
    rw [h5, h9, h10, if_neg g0, show (0 : Int32) = nI 0 from rfl, show (3 : Int32) = nI 3 from rfl, show (1 : Int32) = nI 1 from rfl, pk_mul, nI_add, nI_add, ni_subn (by omega)]
    exact congrArg nI (by omega)
  unfold sc_td
  rw [if_neg, ea, if_neg, zz_ixn (by omega), h10, if_neg g0, num_18]
  · unfold sc_d1
    rw [h10, h9, if_neg g0, Int32.add_zero, nI_1, num_num]
  · rw [show (0 : Int32) = nI 0 from rfl, show (101 : Int32) = nI 101 from rfl, ni_ltn (by omega) (by omega), ni_ltn (by omega) (by omega)]
    omega
  · rw [h7, h10]
    rintro (z | z | z)
    · exact absurd z (by decide)
    · exact g0 z.1
    · rw [show (3 : Int32) = nI 3 from rfl, i_eq (by omega) (by omega)] at z; omega
theorem td_C (h : ps M c 1 w t 0) : (sc_td (numM M c t 3 v) x).1 = 0 := by
  obtain ⟨h5, h7, h8, h9, h10⟩ := num_ps (g := 3) (v := v) h
  unfold sc_td
  rw [if_pos (Or.inr (Or.inr (by rw [h10]; rfl)))]
theorem pdg_t (h : pdg l = true) : ¬ l < 48 ∧ ¬ 57 < l := by
  simp only [pdg, Bool.and_eq_true, Bool.not_eq_true', decide_eq_false_iff_not] at h
  exact h
theorem pdg_f (h : pdg l = false) : ¬ (¬ l < 48 ∧ ¬ 57 < l) := fun z => by
  simp [pdg, z.1, z.2] at h
theorem tk_d (h : pdg l = true) : sc_tk M l = sc_td M (l - 48) := by
  unfold sc_tk; rw [if_pos (pdg_t h)]
theorem nd_nd : nd (nd M) = nd M := set_set
theorem tk_nd (h : pdg l = false) : sc_tk (nd M) l = sc_tk M l := by
  unfold sc_tk
  rw [if_neg (pdg_f h), if_neg (pdg_f h)]
  show (if l = 32 then (1, nd (nd M)) else if l = 59 then sc_ec (nd (nd M)) else sc_bc (nd (nd M)) l) = (if l = 32 then (1, nd M) else if l = 59 then sc_ec (nd M) else sc_bc (nd M) l)
  rw [nd_nd]
theorem pb_lt (h : p < n) : pb T n p = T p := if_pos h
theorem pb_n : pb T n n = -1 := if_neg (Nat.lt_irrefl _)
theorem pdg_m1 : pdg (-1) = false := by decide
theorem pdg_lt (hp : p ≤ n) (h : pdg (pb T n p) = true) : p < n := by
  by_cases z : p = n
  · subst z; rw [pb_n, pdg_m1] at h; cases h
  · omega
theorem eq_v (b : Int32) (v : Int32) : 10 * v + b - 48 = v * 10 + (b - 48) := by
  rw [Int32.mul_comm, Int32.sub_eq_add_neg, Int32.sub_eq_add_neg, Int32.add_assoc]
/-- a number, in the class's way -/
theorem num_run (h : ps M c 1 w t 0) (ht : t < w) (hc : 3 * c + t ≤ 101) (hw : w ≤ 3) (hp : p ≤ n) :
    ((pds T n 3 p 0).1 = p ∧ pdg (pb T n p) = false) ∨ (p < (pds T n 3 p 0).1 ∧ (pds T n 3 p 0).1 ≤ n ∧ ((pdg (pb T n (pds T n 3 p 0).1) = true ∧ FL n (cl T (n - p) p M) (pds T n 3 p 0).1) ∨
      (pdg (pb T n (pds T n 3 p 0).1) = false ∧ ∃ g, cl T (n - p) p M = cl T (n - (pds T n 3 p 0).1) (pds T n 3 p 0).1 (numM M c t g (pds T n 3 p 0).2)))) := by
  by_cases d1 : pdg (pb T n p) = true
  · have p1 := pdg_lt hp d1
    right
    have s1 : cl T (n - p) p M = cl T (n - (p + 1)) (p + 1) (numM M c t 1 (10 * 0 + pb T n p - 48)) := by
      rw [cl_s p1, ← pb_lt (T := T) p1, tk_d d1, td_A h ht hc hw, if_neg (show ¬ (1 : Int32) = 0 by decide), eq_v, Int32.zero_mul, Int32.zero_add]
    rw [s1, show pds T n 3 p 0 = pds T n 2 (p + 1) (10 * 0 + pb T n p - 48) by rw [pds, if_pos d1]]
    generalize 10 * 0 + pb T n p - 48 = v1
    by_cases d2 : pdg (pb T n (p + 1)) = true
    · have p2 := pdg_lt (by omega) d2
      have s2 : cl T (n - (p + 1)) (p + 1) (numM M c t 1 v1) = cl T (n - (p + 1 + 1)) (p + 1 + 1) (numM M c t 2 (10 * v1 + pb T n (p + 1) - 48)) := by
        rw [cl_s p2, ← pb_lt (T := T) p2, tk_d d2, td_B h (Or.inl rfl) hc, if_neg (show ¬ (1 : Int32) = 0 by decide), eq_v]
      rw [s2, show pds T n 2 (p + 1) v1 = pds T n 1 (p + 1 + 1) (10 * v1 + pb T n (p + 1) - 48) by rw [pds, if_pos d2]]
      generalize 10 * v1 + pb T n (p + 1) - 48 = v2
      by_cases d3 : pdg (pb T n (p + 1 + 1)) = true
      · have p3 := pdg_lt (by omega) d3
        have s3 : cl T (n - (p + 1 + 1)) (p + 1 + 1) (numM M c t 2 v2) = cl T (n - (p + 1 + 1 + 1)) (p + 1 + 1 + 1) (numM M c t 3 (10 * v2 + pb T n (p + 1 + 1) - 48)) := by
          rw [cl_s p3, ← pb_lt (T := T) p3, tk_d d3, td_B h (Or.inr rfl) hc, if_neg (show ¬ (1 : Int32) = 0 by decide), eq_v]
        rw [s3, show pds T n 1 (p + 1 + 1) v2 = (p + 1 + 1 + 1, 10 * v2 + pb T n (p + 1 + 1) - 48) by rw [pds, if_pos d3]; rfl]
        generalize 10 * v2 + pb T n (p + 1 + 1) - 48 = v3
        refine ⟨by show p < p + 1 + 1 + 1; omega, by show p + 1 + 1 + 1 ≤ n; omega, ?_⟩
        show (pdg (pb T n (p + 1 + 1 + 1)) = true ∧ FL n _ (p + 1 + 1 + 1)) ∨ _
        by_cases d4 : pdg (pb T n (p + 1 + 1 + 1)) = true
        · left
          have p4 := pdg_lt (by omega) d4
          refine ⟨d4, Or.inl ?_⟩
          rw [cl_s p4, ← pb_lt (T := T) p4, tk_d d4, if_pos (td_C h)]
        · right
          exact ⟨by simpa using d4, 3, rfl⟩
      · rw [show pds T n 1 (p + 1 + 1) v2 = (p + 1 + 1, v2) by rw [pds, if_neg d3]]
        exact ⟨by show p < p + 1 + 1; omega, by show p + 1 + 1 ≤ n; omega, Or.inr ⟨by simpa using d3, 2, rfl⟩⟩
    · rw [show pds T n 2 (p + 1) v1 = (p + 1, v1) by rw [pds, if_neg d2]]
      exact ⟨by show p < p + 1; omega, by show p + 1 ≤ n; omega, Or.inr ⟨by simpa using d2, 1, rfl⟩⟩
  · left
    refine ⟨by rw [show pds T n 3 p 0 = (p, 0) by rw [pds, if_neg d1]], by simpa using d1⟩
/-- blanks -/
theorem psk_ge : ∀ f p, p ≤ psk T n f p ∧ (psk T n f p = p ∨ psk T n f p ≤ n)
  | 0, p => ⟨Nat.le_refl _, Or.inl rfl⟩
  | f + 1, p => by
    rw [psk]
    split
    · next h =>
      have hp : p < n := by
        by_cases z : p < n
        · exact z
        · unfold pb at h; rw [if_neg z] at h; exact absurd h (by decide)
      obtain ⟨a, b⟩ := psk_ge f (p + 1)
      exact ⟨by omega, Or.inr (by omega)⟩
    · exact ⟨Nat.le_refl _, Or.inl rfl⟩
theorem psk_nb : ∀ f p, n ≤ p + f → ¬ pb T n (psk T n f p) = 32
  | 0, p, h => by
    rw [psk]
    unfold pb
    rw [if_neg (by omega)]
    decide
  | f + 1, p, h => by
    rw [psk]
    split
    · exact psk_nb f (p + 1) (by omega)
    · next z => exact z
theorem tk_b : sc_tk M 32 = (1, nd M) := by
  unfold sc_tk
  rw [if_neg (by decide), if_pos rfl]
  rfl
theorem skip_run : ∀ f p, p + f = n → M.1 (2, 0, 0) 10 = 0 → cl T (n - p) p M = cl T (n - psk T n f p) (psk T n f p) M
  | 0, p, _, _ => rfl
  | f + 1, p, h, h10 => by
    rw [psk]
    split
    · next z =>
      have hp : p < n := by omega
      rw [pb_lt hp] at z
      rw [cl_s hp, z, tk_b, if_neg (show ¬ (1 : Int32) = 0 by decide)]
      rw [show nd M = M from set_same h10]
      exact skip_run f (p + 1) (by omega) h10
    · rfl
end PR
