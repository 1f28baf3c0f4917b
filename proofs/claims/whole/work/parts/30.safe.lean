abbrev sA : Type := Nat → Nat → Int
abbrev sN : Type := Nat → Nat → Nat
def sf_cnt (p : Nat → Bool) : Nat → Nat
  | 0 => 0
  | k + 1 => sf_cnt p k + (if p k = true then 1 else 0)
def sf_maj (P : Nat → Prop) : Prop := ∃ p : Nat → Bool, (∀ s, s < 5 → p s = true → P s) ∧ 3 ≤ sf_cnt p 5
theorem sf_mono {P Q : Nat → Prop} (m : sf_maj P) (h : ∀ s, s < 5 → P s → Q s) : sf_maj Q := by
  obtain ⟨p, h1, h2⟩ := m
  exact ⟨p, fun s hs hp => h s hs (h1 s hs hp), h2⟩
theorem sf_cnt_two (p r : Nat → Bool) : ∀ k, (∀ s, s < k → ¬ (p s = true ∧ r s = true)) → sf_cnt p k + sf_cnt r k ≤ k
  | 0, _ => Nat.le_refl _
  | k + 1, h => by
    have ih := sf_cnt_two p r k (fun s hs => h s (by omega))
    have hk := h k (by omega)
    simp only [sf_cnt]
    cases hp : p k <;> cases hr : r k
    · simp; omega
    · simp; omega
    · simp; omega
    · exact absurd ⟨hp, hr⟩ hk
theorem sf_meet {P Q : Nat → Prop} (m : sf_maj P) (m2 : sf_maj Q) : ∃ s, s < 5 ∧ P s ∧ Q s := by
  obtain ⟨p, h1, h2⟩ := m
  obtain ⟨r, h3, h4⟩ := m2
  apply Classical.byContradiction
  intro hn
  have := sf_cnt_two p r 5 (fun s hs hh => hn ⟨s, hs, h1 s hs hh.1, h3 s hs hh.2⟩)
  omega
def sf_lt (A : sA) (N : sN) (s : Nat) : Int := if N 0 s = 0 then 0 else A (10 + s) (4 * (N 0 s - 1))
def sf_ge (A : sA) (N : sN) (s v : Nat) : Prop := sf_lt A N v < sf_lt A N s ∨ (sf_lt A N v = sf_lt A N s ∧ N 0 v ≤ N 0 s)
def sf_px (A : sA) (N : sN) (s v : Nat) : Prop := N 0 s ≤ N 0 v ∧ ∀ j, j < 4 * N 0 s → A (10 + s) j = A (10 + v) j
def sf_act (A : sA) (s : Nat) : Prop := 0 < A 4 s ∧ A 0 0 < A 5 s
def sf_PQ (A : sA) : Prop := ∀ s, s < 5 → sf_act A s → sf_maj (fun v => A 2 v = (s : Int) ∧ A 5 s ≤ A 3 v)
def sf_TL (A : sA) : Prop := ∀ s, s < 5 → 0 < A 4 s → sf_maj (fun v => A 4 s ≤ A 1 v)
def sf_TG (A : sA) (N : sN) : Prop := ∀ s, s < 6 → sf_maj (fun v => sf_lt A N s ≤ A 1 v)
def sf_LD (A : sA) (N : sN) : Prop := ∀ s, s < 5 → sf_act A s → sf_ge A N s 5
def sf_LC (A : sA) (N : sN) : Prop := ∀ s, s < 5 → sf_ge A N s 5 → sf_px A N 5 s
def sf_MQ (A : sA) (N : sN) : Prop := sf_maj (fun v => sf_ge A N v 5)
def sf_TM (A : sA) (N : sN) : Prop := ∀ s, s < 5 → sf_act A s → ∀ u, u < 5 → sf_lt A N u ≤ A 4 s ∧ (sf_lt A N u = A 4 s → sf_px A N u s)
def sf_DN (A : sA) (N : sN) : Prop := ∀ s, s < 5 → N 1 s ≤ N 0 5 ∧ N 1 s ≤ N 0 s ∧ ∀ j, j < 4 * N 1 s → A (10 + s) j = A 15 j
def sf_OW (A : sA) (N : sN) : Prop := ∀ s, s < 5 → (∀ k, k < N 2 s → ∃ i : Nat, i < N 1 s ∧ A (20 + s) k = (i : Int) ∧ A (30 + s) k = A 15 (4 * i + 3)) ∧ ∀ k, k + 1 < N 2 s → A (20 + s) k < A (20 + s) (k + 1)
def sf_ST (A : sA) (N : sN) : Prop := ∀ s, s < 6 → (∀ i : Nat, i < N 0 s → 0 ≤ A (10 + s) (4 * i + 3) ∧ A (10 + s) (4 * i + 3) ≤ 100100 + (i : Int)) ∧ ∀ i : Nat, i + 1 < N 0 s → A (10 + s) (4 * i + 3) < A (10 + s) (4 * (i + 1) + 3)
def sf_NB (N : sN) : Prop := ∀ s, s < 6 → N 0 s ≤ 40
def Sf (A : sA) (N : sN) : Prop := sf_NB N ∧ sf_PQ A ∧ sf_TL A ∧ sf_TG A N ∧ sf_LD A N ∧ sf_LC A N ∧ sf_MQ A N ∧ sf_TM A N ∧ sf_DN A N ∧ sf_OW A N ∧ sf_ST A N
theorem sf_one {A : sA} {s u : Nat} (h : sf_PQ A) (hs : s < 5) (hu : u < 5) (a : sf_act A s) (b : sf_act A u) : s = u := by
  obtain ⟨v, _, h1, h2⟩ := sf_meet (h s hs a) (h u hu b)
  have := h1.1
  have := h2.1
  omega
theorem sf_trans {A : sA} {N : sN} {a b c : Nat} (h1 : sf_ge A N a b) (h2 : sf_ge A N b c) : sf_ge A N a c := by
  unfold sf_ge at *
  omega
theorem sf_lt_c {A A' : sA} {N N' : sN} {s : Nat} (hN : N' 0 s = N 0 s) (hA : ∀ j, A' (10 + s) j = A (10 + s) j) : sf_lt A' N' s = sf_lt A N s := by
  unfold sf_lt
  rw [hN, hA]
theorem sf_ge_c {A A' : sA} {N N' : sN} {s v : Nat} (hN : N' 0 s = N 0 s) (hA : ∀ j, A' (10 + s) j = A (10 + s) j) (hN2 : N' 0 v = N 0 v) (hA2 : ∀ j, A' (10 + v) j = A (10 + v) j) : sf_ge A' N' s v ↔ sf_ge A N s v := by
  unfold sf_ge
  rw [sf_lt_c hN hA, sf_lt_c hN2 hA2, hN, hN2]
theorem sf_px_c {A A' : sA} {N N' : sN} {s v : Nat} (hN : N' 0 s = N 0 s) (hA : ∀ j, A' (10 + s) j = A (10 + s) j) (hN2 : N' 0 v = N 0 v) (hA2 : ∀ j, A' (10 + v) j = A (10 + v) j) : sf_px A' N' s v ↔ sf_px A N s v := by
  unfold sf_px
  rw [hN, hN2]
  constructor
  · rintro ⟨h1, h2⟩; exact ⟨h1, fun j hj => by rw [← hA, ← hA2]; exact h2 j hj⟩
  · rintro ⟨h1, h2⟩; exact ⟨h1, fun j hj => by rw [hA, hA2]; exact h2 j hj⟩
/-- logs, what is owed: as before -/
theorem sf_same {A A' : sA} {N N' : sN} (hk : ∀ k, 10 ≤ k → ∀ j, A' k j = A k j) (h0 : ∀ s, s < 6 → N' 0 s = N 0 s) (h1 : ∀ s, s < 5 → N' 1 s = N 1 s) (h2 : ∀ s, s < 5 → N' 2 s = N 2 s) (h : Sf A N)
    (pq : sf_PQ A') (tl : sf_TL A') (tm : ∀ v, v < 5 → A 1 v ≤ A' 1 v) (ld : ∀ s, s < 5 → sf_act A' s → sf_act A s ∧ A' 4 s = A 4 s ∨ (sf_ge A N s 5 ∧ ∀ u, u < 5 → sf_lt A N u < A' 4 s)) : Sf A' N' := by
  obtain ⟨nb, _, _, tg, LD, lc, mq, TM, dn, ow, st⟩ := h
  have kl : ∀ s j, A' (10 + s) j = A (10 + s) j := fun s j => hk _ (by omega) j
  have kt : ∀ s, s < 6 → sf_lt A' N' s = sf_lt A N s := fun s hs => sf_lt_c (h0 s hs) (kl s)
  have kg : ∀ s v, s < 6 → v < 6 → (sf_ge A' N' s v ↔ sf_ge A N s v) := fun s v hs hv => sf_ge_c (h0 s hs) (kl s) (h0 v hv) (kl v)
  have kp : ∀ s v, s < 6 → v < 6 → (sf_px A' N' s v ↔ sf_px A N s v) := fun s v hs hv => sf_px_c (h0 s hs) (kl s) (h0 v hv) (kl v)
  refine ⟨fun s hs => by rw [h0 s hs]; exact nb s hs, pq, tl, fun s hs => ?_, fun s hs a => ?_, fun s hs g => ?_, sf_mono mq (fun v hv g => (kg v 5 (by omega) (by omega)).mpr g), fun s hs a u hu => ?_, fun s hs => ?_, fun s hs => ?_, fun s hs => ?_⟩
  · refine sf_mono (tg s hs) (fun v hv g => ?_)
    have := tm v hv
    rw [kt s hs]
    omega
  · rw [kg s 5 (by omega) (by omega)]
    rcases ld s hs a with ⟨b, _⟩ | ⟨b, _⟩
    · exact LD s hs b
    · exact b
  · rw [kp 5 s (by omega) (by omega)]
    exact lc s hs ((kg s 5 (by omega) (by omega)).mp g)
  · rw [kt u (by omega), kp u s (by omega) (by omega)]
    rcases ld s hs a with ⟨b, e⟩ | ⟨_, b⟩
    · rw [e]; exact TM s hs b u hu
    · have := b u hu
      exact ⟨by omega, fun e => by omega⟩
  · obtain ⟨a, b, c⟩ := dn s hs
    rw [h1 s hs, h0 5 (by omega), h0 s (by omega)]
    exact ⟨a, b, fun j hj => by rw [kl, hk 15 (by omega)]; exact c j hj⟩
  · obtain ⟨a, b⟩ := ow s hs
    rw [h1 s hs, h2 s hs]
    refine ⟨fun k hkk => ?_, fun k hkk => ?_⟩
    · obtain ⟨i, h3, h4, h5⟩ := a k hkk
      exact ⟨i, h3, by rw [hk _ (by omega)]; exact h4, by rw [hk _ (by omega), hk 15 (by omega)]; exact h5⟩
    · rw [hk _ (by omega), hk _ (by omega)]; exact b k hkk
  · obtain ⟨a, b⟩ := st s hs
    rw [h0 s hs]
    exact ⟨fun i hi => by rw [kl]; exact a i hi, fun i hi => by rw [kl, kl]; exact b i hi⟩
/-- an election -/
theorem sf_elect {A A' : sA} {N N' : sN} {s : Nat} {t e : Int} {g : Nat → Bool} (hs : s < 5) (hk : ∀ k, 10 ≤ k → ∀ j, A' k j = A k j) (h0 : ∀ s, s < 6 → N' 0 s = N 0 s) (h1 : ∀ s, s < 5 → N' 1 s = N 1 s) (h2 : ∀ s, s < 5 → N' 2 s = N 2 s) (h : Sf A N)
    (ht : t = A 1 s + 1) (hT : A' 0 0 = A 0 0) (ho : ∀ u, u < 5 → ¬ u = s → A' 4 u = A 4 u ∧ A' 5 u = A 5 u)
    (g1 : ∀ v, v < 5 → g v = true → v = s ∨ A 1 v < t) (g2 : ∀ v, v < 5 → g v = true → A 2 v = -1000 ∨ A 2 v = (s : Int) ∨ A 3 v ≤ A 0 0) (g3 : ∀ v, v < 5 → g v = true → sf_ge A N s v)
    (g4 : ∀ v, v < 5 → g v = true → A' 2 v = (s : Int) ∧ A' 3 v = e ∧ t ≤ A' 1 v) (g5 : ∀ v, v < 5 → g v = false → A' 2 v = A 2 v ∧ A' 3 v = A 3 v)
    (tm : ∀ v, v < 5 → A 1 v ≤ A' 1 v) (hl : (3 ≤ sf_cnt g 5 ∧ A' 4 s = t ∧ A' 5 s = e) ∨ A' 4 s = 0) : Sf A' N' := by
  obtain ⟨nb, PQ, TL, TG, LD, LC, MQ, TM, _⟩ := id h
  have own : ∀ u, u < 5 → sf_act A' u → u = s ∧ (3 ≤ sf_cnt g 5 ∧ A' 4 s = t ∧ A' 5 s = e) ∨ (¬ u = s ∧ sf_act A u ∧ A' 4 u = A 4 u ∧ A' 5 u = A 5 u) := by
    intro u hu a
    by_cases eu : u = s
    · subst eu
      rcases hl with hl | hl
      · exact Or.inl ⟨rfl, hl⟩
      · have := a.1; omega
    · obtain ⟨o1, o2⟩ := ho u hu eu
      refine Or.inr ⟨eu, ⟨?_, ?_⟩, o1, o2⟩
      · have := a.1; omega
      · have := a.2; omega
  refine sf_same hk h0 h1 h2 h (fun u hu a => ?_) (fun u hu a => ?_) tm (fun u hu a => ?_)
  · rcases own u hu a with ⟨rfl, c, _, e5⟩ | ⟨eu, b, e4, e5⟩
    · exact ⟨g, fun v hv gv => by obtain ⟨a1, a2, _⟩ := g4 v hv gv; exact ⟨a1, by omega⟩, c⟩
    · refine sf_mono (PQ u hu b) (fun v hv m => ?_)
      have b2 := b.2
      cases gv : g v
      · obtain ⟨a1, a2⟩ := g5 v hv gv
        exact ⟨by rw [a1]; exact m.1, by have := m.2; omega⟩
      · exfalso
        have m1 := m.1
        have m2 := m.2
        rcases g2 v hv gv with x | x | x <;> omega
  · by_cases eu : u = s
    · subst eu
      rcases hl with ⟨c, e4, _⟩ | hl
      · exact ⟨g, fun v hv gv => by obtain ⟨_, _, a3⟩ := g4 v hv gv; omega, c⟩
      · omega
    · obtain ⟨o1, _⟩ := ho u hu eu
      refine sf_mono (TL u hu (by omega)) (fun v hv m => ?_)
      have := tm v hv
      omega
  · rcases own u hu a with ⟨rfl, c, e4, _⟩ | ⟨eu, b, e4, _⟩
    · right
      have mg : sf_maj (fun v => g v = true) := ⟨g, fun v _ gv => gv, c⟩
      constructor
      · obtain ⟨v, hv, a1, a2⟩ := sf_meet mg MQ
        exact sf_trans (g3 v hv a1) a2
      · intro w hw
        obtain ⟨v, hv, a1, a2⟩ := sf_meet mg (TG w (by omega))
        rcases g1 v hv a1 with x | x
        · subst x; omega
        · omega
    · exact Or.inl ⟨b, e4⟩
/-- a renewal: s is the one that has it -/
theorem sf_renew {A A' : sA} {N N' : sN} {s : Nat} {e : Int} {g : Nat → Bool} (hs : s < 5) (hk : ∀ k, 10 ≤ k → ∀ j, A' k j = A k j) (h0 : ∀ s, s < 6 → N' 0 s = N 0 s) (h1 : ∀ s, s < 5 → N' 1 s = N 1 s) (h2 : ∀ s, s < 5 → N' 2 s = N 2 s) (h : Sf A N)
    (ha : sf_act A s) (hT : A' 0 0 = A 0 0) (ho : ∀ u, u < 5 → A' 4 u = A 4 u ∧ (¬ u = s → A' 5 u = A 5 u))
    (g4 : ∀ v, v < 5 → g v = true → A' 2 v = (s : Int) ∧ e ≤ A' 3 v ∧ (A 2 v = (s : Int) → A 3 v ≤ A' 3 v)) (g5 : ∀ v, v < 5 → g v = false → A' 2 v = A 2 v ∧ A' 3 v = A 3 v)
    (tm : ∀ v, v < 5 → A 1 v ≤ A' 1 v) (hl : (3 ≤ sf_cnt g 5 ∧ A 5 s ≤ A' 5 s ∧ (A' 5 s = A 5 s ∨ A' 5 s = e)) ∨ A' 5 s = A 5 s) : Sf A' N' := by
  obtain ⟨nb, PQ, TL, TG, LD, LC, MQ, TM, _⟩ := id h
  have own : ∀ u, u < 5 → sf_act A' u → u = s := by
    intro u hu a
    by_cases eu : u = s
    · exact eu
    · obtain ⟨o1, o2⟩ := ho u hu
      have o2 := o2 eu
      exact sf_one PQ hu hs ⟨by have := a.1; omega, by have := a.2; omega⟩ ha
  have keep : sf_maj (fun v => A' 2 v = (s : Int) ∧ A 5 s ≤ A' 3 v) := by
    refine sf_mono (PQ s hs ha) (fun v hv m => ?_)
    have m1 := m.1
    have m2 := m.2
    cases gv : g v
    · obtain ⟨a1, a2⟩ := g5 v hv gv
      exact ⟨by omega, by omega⟩
    · obtain ⟨a1, _, a3⟩ := g4 v hv gv
      have := a3 m1
      exact ⟨a1, by omega⟩
  refine sf_same hk h0 h1 h2 h (fun u hu a => ?_) (fun u hu a => ?_) tm (fun u hu a => ?_)
  · have eu := own u hu a
    subst eu
    rcases hl with ⟨c, _, e5 | e5⟩ | e5
    · exact sf_mono keep (fun v hv m => ⟨m.1, by have := m.2; omega⟩)
    · exact ⟨g, fun v hv gv => by obtain ⟨a1, a2, _⟩ := g4 v hv gv; exact ⟨a1, by omega⟩, c⟩
    · exact sf_mono keep (fun v hv m => ⟨m.1, by have := m.2; omega⟩)
  · obtain ⟨o1, _⟩ := ho u hu
    refine sf_mono (TL u hu (by omega)) (fun v hv m => ?_)
    have := tm v hv
    omega
  · have eu := own u hu a
    subst eu
    exact Or.inl ⟨ha, (ho u hu).1⟩
/-- a lease less, and promises to it; or time goes on -/
theorem sf_less {A A' : sA} {N N' : sN} (s : Nat) (hk : ∀ k, 10 ≤ k → ∀ j, A' k j = A k j) (h0 : ∀ s, s < 6 → N' 0 s = N 0 s) (h1 : ∀ s, s < 5 → N' 1 s = N 1 s) (h2 : ∀ s, s < 5 → N' 2 s = N 2 s) (h : Sf A N)
    (hT : A 0 0 ≤ A' 0 0) (ho : ∀ u, u < 5 → (u = s ∧ A' 4 u = 0) ∨ (A' 4 u = A 4 u ∧ A' 5 u = A 5 u))
    (g4 : ∀ v, v < 5 → (A' 2 v = A 2 v ∧ A' 3 v = A 3 v) ∨ (A 2 v = (s : Int) ∧ A' 4 s = 0)) (tm : ∀ v, v < 5 → A 1 v ≤ A' 1 v) : Sf A' N' := by
  obtain ⟨nb, PQ, TL, TG, LD, LC, MQ, TM, _⟩ := id h
  have own : ∀ u, u < 5 → 0 < A' 4 u → A' 4 u = A 4 u ∧ A' 5 u = A 5 u := by
    intro u hu a
    rcases ho u hu with x | x
    · omega
    · exact x
  have act : ∀ u, u < 5 → sf_act A' u → sf_act A u := by
    intro u hu a
    have := own u hu a.1
    exact ⟨by have := a.1; omega, by have := a.2; omega⟩
  refine sf_same hk h0 h1 h2 h (fun u hu a => ?_) (fun u hu a => ?_) tm (fun u hu a => Or.inl ⟨act u hu a, (own u hu a.1).1⟩)
  · obtain ⟨e4, e5⟩ := own u hu a.1
    refine sf_mono (PQ u hu (act u hu a)) (fun v hv m => ?_)
    have m1 := m.1
    have m2 := m.2
    rcases g4 v hv with ⟨x, y⟩ | ⟨x, y⟩
    · exact ⟨by omega, by omega⟩
    · have : u = s := by omega
      subst this
      have := a.1
      omega
  · obtain ⟨e4, _⟩ := own u hu a
    refine sf_mono (TL u hu (by omega)) (fun v hv m => ?_)
    have := tm v hv
    omega
