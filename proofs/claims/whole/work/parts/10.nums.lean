theorem zz_ixn {n : Nat} (h : n < 2147483648) : zz_ix (nI n) = n := nI_clamp h
def zz_bi (b : Bool) : Int32 := cond b 1 0
theorem zz_bi01 (b : Bool) : zz_bi b = 0 ∨ zz_bi b = 1 := by cases b; exact Or.inl rfl; exact Or.inr rfl
theorem zz_bi0 (b : Bool) : (zz_bi b = 0) = (b = false) := by cases b <;> simp [zz_bi]
theorem zz_bi1 (b : Bool) : (zz_bi b = 1) = (b = true) := by cases b <;> simp [zz_bi]
theorem zz_bit : zz_bi true = 1 := rfl
theorem zz_bif : zz_bi false = 0 := rfl
def zz_it {α : Type} (f : Nat → α → α) : Nat → α → α
  | 0, a => a
  | k + 1, a => f k (zz_it f k a)
def zz_pk : List Nat → zL → Option zL
  | [], _ => some []
  | k :: t, ls => match zz_lk ls k with
    | some v => match zz_pk t ls with
      | some r => some ((k, v) :: r)
      | none => none
    | none => none
theorem zz_pk_in : ∀ {ks : List Nat} {ls ls' : zL}, zz_pk ks ls = some ls' → ∀ q ∈ ls', q ∈ ls
  | [], ls, ls', h => by cases h; intro q hq; cases hq
  | k :: t, ls, ls', h => by
    unfold zz_pk at h
    split at h
    · next v hv =>
      split at h
      · next r hr =>
        cases h
        intro q hq
        rcases List.mem_cons.mp hq with e | e
        · subst e; exact zz_lk_mem hv
        · exact zz_pk_in hr q e
      · cases h
    · cases h
theorem zz_pm {G : zG} {Z : zC} {md : zD} {post : Option zV → zM → Prop} {pc : Nat} {ls ls' : zL} {st : List zV} {M : zM} (ks : List Nat) (h : zz_pk ks ls = some ls') (k : zz_W G Z md post pc ls' st M) : zz_W G Z md post pc ls st M := by
  have hin := zz_pk_in h
  intro hl1 hl2 H locs la hP hS hl
  refine k (fun q hq => hl1 q (hin q hq)) hl2 H locs la hP hS ⟨hl.1, hl.2.1, fun q hq => ?_⟩
  obtain ⟨q', hq', e⟩ := List.mem_map.mp hq
  exact hl.2.2 q (List.mem_map.mpr ⟨q', hin q' hq', e⟩)
theorem ni_lt {x y : Int32} : x < y ↔ x.toInt < y.toInt := Int32.lt_iff_toInt_lt
theorem ni_le {x y : Int32} : x ≤ y ↔ x.toInt ≤ y.toInt := Int32.le_iff_toInt_le
theorem ni_eq {x y : Int32} : x = y ↔ x.toInt = y.toInt := Int32.toInt_inj.symm
theorem ni_n {n : Nat} (h : n < 2147483648) : (nI n).toInt = (n : Int) := nI_toInt h
theorem ni_lit (n : Nat) : (OfNat.ofNat n : Int32) = nI (OfNat.ofNat n) := rfl
theorem ni_rng (x : Int32) : -2147483648 ≤ x.toInt ∧ x.toInt < 2147483648 := by
  have h1 := Int32.le_toInt x
  have h2 := Int32.toInt_lt x
  omega
theorem ni_bm {z : Int} (h1 : -2147483648 ≤ z) (h2 : z < 2147483648) : z.bmod (2 ^ 32) = z := by
  rw [Int.bmod_eq_of_le] <;> omega
theorem ni_add {x y : Int32} (h1 : -2147483648 ≤ x.toInt + y.toInt) (h2 : x.toInt + y.toInt < 2147483648) : (x + y).toInt = x.toInt + y.toInt := by
  rw [Int32.toInt_add]; exact ni_bm h1 h2
theorem ni_sub {x y : Int32} (h1 : -2147483648 ≤ x.toInt - y.toInt) (h2 : x.toInt - y.toInt < 2147483648) : (x - y).toInt = x.toInt - y.toInt := by
  rw [Int32.toInt_sub]; exact ni_bm h1 h2
theorem ni_of {x : Int32} {N : Nat} (h0 : 0 ≤ x.toInt) (h1 : x.toInt < N) : ∃ n : Nat, n < N ∧ x = nI n := by
  have hr := ni_rng x
  refine ⟨x.toInt.toNat, by omega, ?_⟩
  rw [ni_eq, ni_n (by omega)]
  omega
theorem ni_in {n N : Nat} (h : n < N) (hN : N ≤ 100000) : vp_in (nI n) N := vp_in_nI h (by omega)
theorem ni_inx {x : Int32} {n N : Nat} (e : x = nI n) (h : n < N) (hN : N ≤ 100000) : vp_in x N := e ▸ ni_in h hN
theorem ni_ix {x : Int32} {n : Nat} (e : x = nI n) (h : n < 2147483648) : zz_ix x = n := e ▸ zz_ixn h
theorem ni_mul (a b : Nat) : nI a * nI b = nI (a * b) := pk_mul a b
theorem zz_pq {post : Option zV → zM → Prop} {r r' : Option zV} {M M' : zM} (h : post r' M') (hr : r = r') (hM : M = M') : post r M := by rw [hr, hM]; exact h
theorem zz_cg {G : zG} {Z : zC} {md : zD} {post : Option zV → zM → Prop} {pc : Nat} {ls ls' : zL} {st st' : List zV} {M M' : zM} (k : zz_W G Z md post pc ls' st' M') (e1 : ls = ls') (e2 : st = st') (e3 : M = M') : zz_W G Z md post pc ls st M := by rw [e1, e2, e3]; exact k
theorem ni_ofr {row size : Int32} {n : Nat} (hz : size = nI n) (hn : n < 2147483648) (h1 : ¬ row < 0) (h9 : row < size) : ∃ k : Nat, k < n ∧ row = nI k := by
  rw [hz, ni_lt, ni_n hn] at h9
  rw [ni_lt] at h1
  exact ni_of (by simpa using h1) h9
theorem zz_rl_le (j : Nat) : zz_rl j ≤ 200 := by
  unfold zz_rl
  split
  · exact Nat.le_refl _
  · split <;> decide
theorem zz_gs (M : zM) (r q : zR) (k j : Nat) (v : Int32) : (zz_set M r k v).1 q j = if q = r ∧ j = k then v else M.1 q j := rfl
theorem zz_gc (M : zM) (a0 a1 q : zR) (sp dp n j : Nat) : (zz_cpy M a0 a1 sp dp n).1 q j = if q = a1 then va_cpy (M.1 a0) (M.1 a1) sp dp n j else M.1 q j := rfl
theorem ni_ltn {a b : Nat} (ha : a < 2147483648) (hb : b < 2147483648) : (nI a < nI b) = (a < b) := propext (nI_ltI ha hb)
theorem ni_eqn {a b : Nat} (ha : a < 2147483648) (hb : b < 2147483648) : (nI a = nI b) = (a = b) := propext (nI_eq ha hb)
theorem ni_subn {a b : Nat} (h : b ≤ a) : nI a - nI b = nI (a - b) := pk_sub h
def zz_ff (p : Nat → Bool) : Nat → Nat → Nat
  | 0, i => i
  | f + 1, i => if p i then i else zz_ff p f (i + 1)
def ro_get (M : zM) (w j : Nat) (row : Int32) (c : Nat) : Int32 := if row < 0 ∨ ¬ row < M.1 (1, w, j) 1 then -1000 else M.1 (7, w, j) (4 * zz_ix row + c)
def ro_add (M : zM) (w j n : Nat) (a b c d : Int32) : zM := if zz_rl j < (n + 1) * 4 then M else zz_set (zz_set (zz_set (zz_set (zz_set M (7, w, j) (4 * n) a) (7, w, j) (4 * n + 1) b) (7, w, j) (4 * n + 2) c) (7, w, j) (4 * n + 3) d) (1, w, j) 1 (nI (n + 1))
def ro_drop (M : zM) (w j n k : Nat) : zM := if k = 0 ∨ n < k then M else zz_set (zz_cpy M (7, w, j) (7, w, j) (4 * k) 0 (4 * (n - k))) (1, w, j) 1 (nI (n - k))
def ro_copy (M : zM) (w j w2 j2 n : Nat) : zM := zz_set (zz_cpy M (7, w2, j2) (7, w, j) 0 0 (4 * n)) (1, w, j) 1 (nI n)
def ro_last (M : zM) (w j n c : Nat) (o : Int32) : Int32 := if n = 0 then o else M.1 (7, w, j) (4 * (n - 1) + c)
def ro_shared (M : zM) (w j w2 j2 n : Nat) : Nat := zz_ff (fun i => !(M.1 (7, w, j) i == M.1 (7, w2, j2) i)) (4 * n) 0 / 4
theorem ni_min {a b : Nat} (ha : a < 2147483648) (hb : b < 2147483648) : (if nI b < nI a then nI b else nI a) = nI (min a b) := by
  by_cases h : b < a
  · rw [if_pos (nI_lt h ha)]; congr 1; omega
  · rw [if_neg (nI_nlt (by omega) hb)]; congr 1; omega
theorem ni_max {a b : Nat} (ha : a < 2147483648) (hb : b < 2147483648) : (if nI a < nI b then nI b else nI a) = nI (max a b) := by
  by_cases h : a < b
  · rw [if_pos (nI_lt h hb)]; congr 1; omega
  · rw [if_neg (nI_nlt (by omega) ha)]; congr 1; omega
