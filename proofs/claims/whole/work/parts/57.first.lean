theorem n_20 : (20 : Int32).toInt = 20 := by decide
theorem mdb_in (x : Int32) : 0 ≤ (mdb x).toInt ∧ (mdb x).toInt ≤ 20 := by
  unfold mdb
  split
  · rw [n_0]; omega
  · next h =>
    rw [ni_lt, n_0] at h
    split
    · rw [n_20]; omega
    · next h2 => rw [ni_lt, n_20] at h2; omega
theorem kpt_mdb (x : Int32) : kpt x = mdb x := by
  unfold kpt mdb
  by_cases h : x < 20
  · rw [if_pos h]
    have h' := h
    rw [ni_lt, n_20] at h'
    by_cases h2 : 0 < x
    · have h2' := h2
      rw [ni_lt, n_0] at h2'
      rw [if_pos h2, if_neg (by rw [ni_lt, n_0]; omega), if_neg (by rw [ni_lt, n_20]; omega)]
    · have h2' := h2
      rw [ni_lt, n_0] at h2'
      rw [if_neg h2]
      by_cases h3 : x < 0
      · rw [if_pos h3]
      · have h3' := h3
        rw [ni_lt, n_0] at h3'
        rw [if_neg h3, if_neg (by rw [ni_lt, n_20]; omega), ni_eq, n_0]
        omega
  · have h' := h
    rw [ni_lt, n_20] at h'
    rw [if_neg h, if_pos (by decide), if_neg (by rw [ni_lt, n_0]; omega)]
    by_cases h3 : 20 < x
    · rw [if_pos h3]
    · have h3' := h3
      rw [ni_lt, n_20] at h3'
      rw [if_neg h3, ni_eq, n_20]
      omega
theorem mf_0 {j : Nat} (h : j < 11 ∨ (36 ≤ j ∧ j < 41) ∨ 46 ≤ j) : mfF 5 25 j = 0 := by
  unfold mfF; rw [if_neg (by omega), if_neg (by omega)]
theorem mf_l {j : Nat} (h : 11 ≤ j ∧ j < 36) : mfF 5 25 j = 1 := by
  unfold mfF; rw [if_neg (by omega), if_pos (by omega)]
theorem mf_h {j : Nat} (h : 41 ≤ j ∧ j < 46) : mfF 5 25 j = -1000 := by
  unfold mfF; rw [if_pos (by omega)]
theorem mf_fl {j : Nat} (h : j < 11 ∨ (36 ≤ j ∧ j < 41) ∨ 46 ≤ j) : fl (mfF 5 25) j = 0 := by
  unfold fl; rw [mf_0 h]; rfl
theorem fi_l {i j : Nat} {v : Int32} (h : j < i) : fil i v j = v := if_pos h
theorem sf_first : Sf (al (mfF 5 25)) (an (mfF 5 25)) := by
  have N0 : ∀ s, s < 6 → an (mfF 5 25) 0 s = 0 := fun s hs => by
    by_cases e : s = 5
    · subst e; rw [an5]; exact mf_fl (by omega)
    · rw [an0 _ (by omega)]; exact mf_fl (by omega)
  have N1 : ∀ s, s < 5 → an (mfF 5 25) 1 s = 0 := fun s hs => by rw [an1 _ hs]; exact mf_fl (by omega)
  have N2 : ∀ s, s < 5 → an (mfF 5 25) 2 s = 0 := fun s hs => by rw [an2 _ hs]; exact mf_fl (by omega)
  have A4 : ∀ s, s < 5 → al (mfF 5 25) 4 s = 0 := fun s hs => by rw [al4 _ hs, mf_0 (by omega)]; rfl
  have A1 : ∀ s, s < 5 → al (mfF 5 25) 1 s = 0 := fun s hs => by rw [al1 _ hs, mf_0 (by omega)]; rfl
  have lt : ∀ s, s < 6 → sf_lt (al (mfF 5 25)) (an (mfF 5 25)) s = 0 := fun s hs => by unfold sf_lt; rw [if_pos (N0 s hs)]
  have na : ∀ s, s < 5 → ¬ sf_act (al (mfF 5 25)) s := fun s hs a => by have := a.1; rw [A4 s hs] at this; omega
  have all : ∀ {P : Nat → Prop}, (∀ s, s < 5 → P s) → sf_maj P := fun h => ⟨fun _ => true, fun s hs _ => h s hs, by decide⟩
  refine ⟨fun s hs => by rw [N0 s hs]; omega, fun s hs a => absurd a (na s hs), fun s hs a => by rw [A4 s hs] at a; omega, fun s hs => all (fun v hv => by rw [lt s hs, A1 v hv]; exact Int.le_refl _), fun s hs a => absurd a (na s hs), fun s hs _ => ⟨by rw [N0 5 (by omega)]; omega, fun j hj => by rw [N0 5 (by omega)] at hj; omega⟩, all (fun v hv => Or.inr ⟨by rw [lt 5 (by omega), lt v (by omega)], by rw [N0 5 (by omega)]; omega⟩), fun s hs a => absurd a (na s hs), fun s hs => ⟨by rw [N1 s hs]; omega, by rw [N1 s hs]; omega, fun j hj => by rw [N1 s hs] at hj; omega⟩, fun s hs => ⟨fun k hk => by rw [N2 s hs] at hk; omega, fun k hk => by rw [N2 s hs] at hk; omega⟩, fun s hs => ⟨fun i hi => by rw [N0 s hs] at hi; omega, fun i hi => by rw [N0 s hs] at hi; omega⟩⟩
theorem inv_first (x : Int32) : INV (mdb x).toInt 0 (m0 (kpt x) (mdb x), 0) := by
  have hd := mdb_in x
  rw [kpt_mdb]
  refine ⟨⟨⟨⟨⟨?_, ?_, ?_⟩, fun s hs => ?_, fun i hi => ?_, fun s hs => ?_, ?_, fun s hs => ?_, ?_, fun c hc => ?_, ?_⟩, ?_⟩, fun s hs => ?_, sf_first⟩, ⟨rfl, rfl, hd.1, hd.2⟩, fun k hk => ⟨rfl, fun z => absurd rfl z⟩, ⟨0, by omega, rfl, rfl, fun i hi => absurd hi (Nat.not_lt_zero _)⟩, ⟨0, by omega, rfl, rfl, fun i hi => absurd hi (Nat.not_lt_zero _)⟩⟩
  · exact (mf_0 (j := 0) (by omega)).symm
  · exact (mf_0 (j := 1438) (by omega)).symm
  · exact (mf_0 (j := 1728) (by omega)).symm
  · show yS1 0 (m0 (mdb x) (mdb x), 0) (mfF 5 25) s
    unfold yS1
    rw [mf_0 (j := 1 + s) (by omega), mf_0 (j := 6 + s) (by omega), mf_0 (j := 36 + s) (by omega), mf_h (j := 41 + s) (by omega), mf_0 (j := 61 + s) (by omega), if_pos rfl, if_pos rfl, if_pos rfl]
    exact ⟨rfl, rfl, rfl, rfl, rfl, rfl, rfl⟩
  · show fil 25 1 i = mfF 5 25 (11 + i)
    rw [fi_l hi, mf_l (by omega)]
  · show (0 : Int32) = mfF 5 25 (51 + s) ∧ (0 : Int32) = mfF 5 25 (56 + s) ∧ ∀ i, i < 4 * fl (mfF 5 25) (51 + s) → (0 : Int32) = mfF 5 25 _
    rw [mf_0 (by omega), mf_0 (by omega), mf_fl (by omega)]
    exact ⟨rfl, rfl, fun i hi => absurd hi (by omega)⟩
  · show (0 : Int32) = mfF 5 25 1436 ∧ (0 : Int32) = mfF 5 25 1436 ∧ ∀ i, i < 4 * fl (mfF 5 25) 1436 → (0 : Int32) = mfF 5 25 _
    rw [mf_0 (by omega), mf_fl (by omega)]
    exact ⟨rfl, rfl, fun i hi => absurd hi (by omega)⟩
  · show (0 : Int32) = mfF 5 25 (71 + s) ∧ ∀ k, k < fl (mfF 5 25) (71 + s) → (0 : Int32) = mfF 5 25 _ ∧ (0 : Int32) = mfF 5 25 _
    rw [mf_0 (by omega), mf_fl (by omega)]
    exact ⟨rfl, fun i hi => absurd hi (by omega)⟩
  · show (0 : Int32) = mfF 5 25 1437 ∧ ∀ i, i < 4 * fl (mfF 5 25) 1437 → (0 : Int32) = mfF 5 25 _
    rw [mf_0 (by omega), mf_fl (by omega)]
    exact ⟨rfl, fun i hi => absurd hi (by omega)⟩
  · show (0 : Int32) = mfF 5 25 _ ∧ (0 : Int32) = mfF 5 25 _
    rw [mf_0 (by omega), mf_0 (by omega)]
    exact ⟨rfl, rfl⟩
  · show (0 : Int32) = mfF 5 25 1647 ∧ ∀ k, k < fl (mfF 5 25) 1647 → _
    rw [mf_0 (by omega), mf_fl (by omega)]
    exact ⟨rfl, fun i hi => absurd hi (by omega)⟩
  · show Vn (mdb x).toInt 0 (mfF 5 25)
    refine ⟨fun i hi => ?_, ?_, fun s hs => ?_, fun k hk => ?_⟩
    · unfold mwi at hi
      rw [mf_fl (by omega), mf_0 (by omega)]
      exact ⟨rfl, Nat.zero_le _⟩
    · rw [mf_0 (by omega), n_0]; omega
    · rw [mf_0 (j := 1 + s) (by omega), mf_0 (j := 36 + s) (by omega), mf_h (j := 41 + s) (by omega), mf_0 (j := 46 + s) (by omega), mf_0 (j := 61 + s) (by omega), n_0]
      exact ⟨by omega, by omega, Or.inl rfl, by omega, by omega⟩
    · rw [mf_fl (by omega)] at hk; omega
  · show fil 5 (-1000) s = if mfF 5 25 1734 = 1 then mfF 5 25 _ else -1000
    rw [fi_l hs, mf_0 (by omega), if_neg (by decide)]
