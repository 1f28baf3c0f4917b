abbrev SM : Type := Nat × Nat × Nat × Nat × Nat × Nat
def sx (l : List S6) (j : Nat) : S6 := l.getD j (0, 0, 0, 0, 0, 0)
def lOf (u : SL) : Nat → List S6
  | 0 => u.1.2.1.1
  | 1 => u.2.1.2.1.1
  | _ => u.2.2.1.2.1.1
def tOf (u : SL) : Nat → S12
  | 0 => u.1.2.2
  | 1 => u.2.1.2.2
  | _ => u.2.2.1.2.2
def adF (hx : Nat) (u : SL) (hm : Nat) (v : SM) (r : zR) : Nat := match r.1 with
  | 0 => (match r.2.2 with
    | 5 => (tOf u r.2.1).2.2.2.1
    | j => (sx (lOf u r.2.1) j).2.1)
  | 1 => (match r.2.2 with
    | 5 => (tOf u r.2.1).2.2.2.2.1
    | 11 => (tOf u r.2.1).2.2.2.2.2.2.1
    | 12 => (tOf u r.2.1).2.2.2.2.2.2.2.2.1
    | 6 => (sx (lOf u r.2.1) 0).2.2.2.2.1
    | 7 => (sx (lOf u r.2.1) 1).2.2.2.2.1
    | 8 => (sx (lOf u r.2.1) 2).2.2.2.2.1
    | 9 => (sx (lOf u r.2.1) 3).2.2.2.2.1
    | 10 => (sx (lOf u r.2.1) 4).2.2.2.2.1
    | j => (sx (lOf u r.2.1) j).2.2.1)
  | 2 => u.2.2.2.2.2.1
  | 3 => sa (lOf u r.2.1) r.2.2
  | 4 => pw3 u.1.1 u.2.1.1 u.2.2.1.1 r.2.1
  | 5 => hx
  | 6 => hm
  | 7 => (match r.2.2 with
    | 5 => (tOf u r.2.1).2.2.2.2.2.1
    | 11 => (tOf u r.2.1).2.2.2.2.2.2.2.1
    | 12 => (tOf u r.2.1).2.2.2.2.2.2.2.2.2.1
    | 6 => (sx (lOf u r.2.1) 0).2.2.2.2.2
    | 7 => (sx (lOf u r.2.1) 1).2.2.2.2.2
    | 8 => (sx (lOf u r.2.1) 2).2.2.2.2.2
    | 9 => (sx (lOf u r.2.1) 3).2.2.2.2.2
    | 10 => (sx (lOf u r.2.1) 4).2.2.2.2.2
    | j => (sx (lOf u r.2.1) j).2.2.2.1)
  | 9 => (tOf u r.2.1).1
  | 10 => (tOf u r.2.1).2.1
  | 11 => (tOf u r.2.1).2.2.1
  | 12 => (tOf u r.2.1).2.2.2.2.2.2.2.2.2.2.1
  | 13 => (tOf u r.2.1).2.2.2.2.2.2.2.2.2.2.2
  | 14 => u.2.2.2.1
  | 15 => u.2.2.2.2.1
  | 16 => u.2.2.2.2.2.2.1
  | 17 => u.2.2.2.2.2.2.2.1
  | 18 => u.2.2.2.2.2.2.2.2.1
  | 19 => u.2.2.2.2.2.2.2.2.2
  | 20 => v.1
  | 21 => v.2.1
  | 22 => v.2.2.1
  | 23 => v.2.2.2.1
  | 24 => v.2.2.2.2.1
  | _ => v.2.2.2.2.2
def m0 (y y2 : Int32) (r : zR) : Nat → Int32 := match r.1 with
  | 3 => fun k => (match k with
    | 5 => -1000
    | 6 => -1000
    | 7 => -1000
    | 8 => -1000
    | _ => 0)
  | 4 => fun k => (match k with
    | 0 => y
    | _ => 0)
  | 6 => fun k => (match k with
    | 3 => y2
    | _ => 0)
  | 10 => fil 25 1
  | 11 => fil 5 (-1000)
  | 20 => mfF 5 25
  | _ => fun _ => 0
def svl (w : Nat) : List zR := [(7, w, 6), (1, w, 6), (7, w, 0), (1, w, 0), (0, w, 0), (3, w, 0), (7, w, 7), (1, w, 7), (7, w, 1), (1, w, 1), (0, w, 1), (3, w, 1), (7, w, 8), (1, w, 8), (7, w, 2), (1, w, 2), (0, w, 2), (3, w, 2), (7, w, 9), (1, w, 9), (7, w, 3), (1, w, 3), (0, w, 3), (3, w, 3), (7, w, 10), (1, w, 10), (7, w, 4), (1, w, 4), (0, w, 4), (3, w, 4)]
def wls (w : Nat) : List zR := [(13, w, 0), (12, w, 0), (7, w, 12), (1, w, 12), (7, w, 11), (1, w, 11), (7, w, 5), (1, w, 5), (0, w, 5), (11, w, 0), (10, w, 0), (9, w, 0), (4, w, 0)] ++ svl w
def mls : List zR := [(25, 0, 0), (24, 0, 0), (23, 0, 0), (22, 0, 0), (21, 0, 0), (20, 0, 0), (6, 0, 0)]
def cls0 : List zR := [(19, 0, 0), (18, 0, 0), (17, 0, 0), (16, 0, 0), (2, 0, 0), (15, 0, 0), (14, 0, 0), (5, 0, 0)]
def gls : List zR := mls ++ (cls0 ++ (wls 2 ++ (wls 1 ++ wls 0)))
def zzl (ad : zR → Nat) (cA : Nat → ClassId) (M : zM) (L : List zR) : va_W := L.map (fun r => (ad r, zz_ce ad cA M r))
section ST
variable {cA : Nat → ClassId} {y y2 : Int32} {hx hm : Nat} {v : SM}
set_option maxRecDepth 20000 in
theorem zl_m (u : SL) : zzl (adF hx u hm v) cA (m0 y y2, 0) mls = moC cA y2 hm v := rfl
set_option maxRecDepth 20000 in
theorem zl_c (u : SL) : zzl (adF hx u hm v) cA (m0 y y2, 0) cls0 = (scenC cA u.2.2.2.2.2.1 u.2.2.2.2.2.2.1 u.2.2.2.2.2.2.2.1 u.2.2.2.2.2.2.2.2.1 u.2.2.2.2.2.2.2.2.2 ++ [(u.2.2.2.2.1, .inl (cA 1, 2, .inl (fun _ => 0))), (u.2.2.2.1, .inl (cA 3, 2, .inr (.inr (.inr (.inr (fun j => some (pw3 u.1.1 u.2.1.1 u.2.2.1.1 (j + 1)))))))), (hx, .inr (5, [.ref u.1.1, .ref u.2.2.2.1, .ref u.2.2.2.2.1, .ref u.2.2.2.2.2.1]))]) := rfl
set_option maxRecDepth 20000 in
theorem zl_w0 {U V : Nat × SW} {R : Nat × Nat × Nat × Nat × Nat × Nat × Nat} {p : Nat} {x0 x1 x2 x3 x4 : S6} {q1 q2 q3 q4 q5 q6 q7 q8 q9 q10 q11 q12 : Nat} : zzl (adF hx ((p, (⟨[x0, x1, x2, x3, x4], rfl⟩, (q1, q2, q3, q4, q5, q6, q7, q8, q9, q10, q11, q12))), U, V, R) hm v) cA (m0 y y2, 0) (wls 0) = worldC cA y p [x0, x1, x2, x3, x4] (q1, q2, q3, q4, q5, q6, q7, q8, q9, q10, q11, q12) := rfl
set_option maxRecDepth 20000 in
theorem zl_w1 {U V : Nat × SW} {R : Nat × Nat × Nat × Nat × Nat × Nat × Nat} {p : Nat} {x0 x1 x2 x3 x4 : S6} {q1 q2 q3 q4 q5 q6 q7 q8 q9 q10 q11 q12 : Nat} : zzl (adF hx (U, (p, (⟨[x0, x1, x2, x3, x4], rfl⟩, (q1, q2, q3, q4, q5, q6, q7, q8, q9, q10, q11, q12))), V, R) hm v) cA (m0 y y2, 0) (wls 1) = worldC cA y p [x0, x1, x2, x3, x4] (q1, q2, q3, q4, q5, q6, q7, q8, q9, q10, q11, q12) := rfl
set_option maxRecDepth 20000 in
theorem zl_w2 {U V : Nat × SW} {R : Nat × Nat × Nat × Nat × Nat × Nat × Nat} {p : Nat} {x0 x1 x2 x3 x4 : S6} {q1 q2 q3 q4 q5 q6 q7 q8 q9 q10 q11 q12 : Nat} : zzl (adF hx (U, V, (p, (⟨[x0, x1, x2, x3, x4], rfl⟩, (q1, q2, q3, q4, q5, q6, q7, q8, q9, q10, q11, q12))), R) hm v) cA (m0 y y2, 0) (wls 2) = worldC cA y p [x0, x1, x2, x3, x4] (q1, q2, q3, q4, q5, q6, q7, q8, q9, q10, q11, q12) := rfl
theorem l5 {l : List S6} (h : l.length = 5) : ∃ x0 x1 x2 x3 x4, l = [x0, x1, x2, x3, x4] := by
  match l, h with
  | [x0, x1, x2, x3, x4], _ => exact ⟨x0, x1, x2, x3, x4, rfl⟩
theorem zl_all (u : SL) : zzl (adF hx u hm v) cA (m0 y y2, 0) gls = moC cA y2 hm v ++ leC cA y hx u := by
  unfold gls zzl
  rw [List.map_append, List.map_append, List.map_append, List.map_append]
  show zzl (adF hx u hm v) cA (m0 y y2, 0) mls ++ (zzl (adF hx u hm v) cA (m0 y y2, 0) cls0 ++ (zzl (adF hx u hm v) cA (m0 y y2, 0) (wls 2) ++ (zzl (adF hx u hm v) cA (m0 y y2, 0) (wls 1) ++ zzl (adF hx u hm v) cA (m0 y y2, 0) (wls 0)))) = _
  rw [zl_m, zl_c]
  obtain ⟨⟨p0, ⟨l0, h0⟩, a1, a2, a3, a4, a5, a6, a7, a8, a9, a10, a11, a12⟩, ⟨p1, ⟨l1, h1⟩, b1, b2, b3, b4, b5, b6, b7, b8, b9, b10, b11, b12⟩, ⟨p2, ⟨l2, h2⟩, c1, c2, c3, c4, c5, c6, c7, c8, c9, c10, c11, c12⟩, r1, r2, r3, r4, r5, r6, r7⟩ := u
  obtain ⟨x0, x1, x2, x3, x4, rfl⟩ := l5 h0
  obtain ⟨y0, y1, y2, y3, y4, rfl⟩ := l5 h1
  obtain ⟨z0, z1, z2, z3, z4, rfl⟩ := l5 h2
  rw [zl_w0, zl_w1, zl_w2]
  rfl
end ST
theorem gls_nd : gls.Nodup := by decide +kernel
def gck (r : zR) : Bool := match zz_sh r with
  | .inl (_, fs) => fs.all (fun f => match f with
    | .inr q => gls.contains q
    | .inl n => !Nat.beq n 1 || decide (r = (6, 0, 0)))
  | .inr (t, n, f) => Nat.blt t 2 || (List.range n).all (fun j => gls.contains (f j))
theorem gls_ck : gls.all gck = true := by decide +kernel
/-- the whole world -/
def gG (l : Launch) (D : va_G) (cA : Nat → ClassId) (ad : zR → Nat) : zG := (l, D, ad, cA, gls)
theorem gG_go {l : Launch} {D : va_G} {cA : Nat → ClassId} {ad : zR → Nat} {M : zM} {A : Nat → Prop} (hD : va_D A (zzl ad cA M gls)) : zz_go (gG l D cA ad) := by
  have ck : ∀ r ∈ gls, gck r = true := List.all_eq_true.mp gls_ck
  refine ⟨gls_nd, fun r hr q hq e => ?_, fun r hr ci fs hs q hq => ?_, fun r hr t n f hs h2 j hj => ?_, fun r hr ci fs hs h1 => ?_⟩
  · obtain ⟨i, hi⟩ := List.getElem?_of_mem (show r ∈ gls from hr)
    obtain ⟨j, hj⟩ := List.getElem?_of_mem (show q ∈ gls from hq)
    have ei : (zzl ad cA M gls)[i]? = some (ad r, zz_ce ad cA M r) := by unfold zzl; rw [List.getElem?_map, hi]; rfl
    have ej : (zzl ad cA M gls)[j]? = some (ad q, zz_ce ad cA M q) := by unfold zzl; rw [List.getElem?_map, hj]; rfl
    have := hD.1 i j _ _ ei ej e
    subst this
    exact Option.some.inj (hi.symm.trans hj)
  · have h := ck r hr
    unfold gck at h
    rw [hs] at h
    have := List.all_eq_true.mp h _ hq
    exact List.contains_iff_mem.mp this
  · have h := ck r hr
    unfold gck at h
    rw [hs] at h
    have hb : Nat.blt t 2 = false := by
      cases e : Nat.blt t 2
      · rfl
      · have : t < 2 := Nat.le_of_ble_eq_true e
        omega
    simp only [hb, Bool.false_or] at h
    have := List.all_eq_true.mp h j (List.mem_range.mpr hj)
    exact List.contains_iff_mem.mp this
  · have h := ck r hr
    unfold gck at h
    rw [hs] at h
    have := List.all_eq_true.mp h _ h1
    simpa using this
