abbrev zR : Type := Nat × Nat × Nat
abbrev zV : Type := Int32 ⊕ (Int64 ⊕ zR)
abbrev zM : Type := (zR → Nat → Int32) × Int64
abbrev zL : Type := List (Nat × zV)
abbrev zE : Type := Nat × Nat × Int32 × Nat × Nat × Nat
abbrev zD : Type := MethodName × ByteArray × Nat × Option FieldType × String × (Nat × Nat) × List Nat × List zE
abbrev zG : Type := Launch × va_G × (zR → Nat) × (Nat → ClassId) × List zR
abbrev zC : Type := Program × Env × State × MethodId × Array Value × List Frame × Method × Code
def zz_ix (i : Int32) : Nat := i.toNatClampNeg
def zz_set (M : zM) (r : zR) (k : Nat) (v : Int32) : zM := (fun q j => if q = r ∧ j = k then v else M.1 q j, M.2)
def zz_setl (M : zM) (v : Int64) : zM := (M.1, v)
def zz_cpy (M : zM) (a0 a1 : zR) (sp dp n : Nat) : zM := (fun q j => if q = a1 then va_cpy (M.1 a0) (M.1 a1) sp dp n j else M.1 q j, M.2)
def zz_cv (ad : zR → Nat) : zV → Value
  | .inl i => .int i
  | .inr (.inl x) => .long x
  | .inr (.inr r) => .ref (ad r)
def zz_rl (j : Nat) : Nat := if j = 11 then 200 else if j = 12 then 80 else 160
def zz_nor : Nat → zR := fun _ => (99, 0, 0)
def zz_sh (r : zR) : (Nat × List (Nat ⊕ zR)) ⊕ (Nat × Nat × (Nat → zR)) :=
  match r with
  | (0, w, s) => .inl (0, [.inr (1, w, s), .inl 0])
  | (1, w, j) => .inl (1, [.inr (7, w, j), .inl 0])
  | (2, _, _) => .inl (2, [.inr (16, 0, 0), .inr (17, 0, 0), .inr (18, 0, 0), .inr (19, 0, 0), .inl 0, .inl 0, .inl 0, .inl 2, .inl 0, .inl 0, .inl 0])
  | (3, w, s) => .inl (3, [.inr (0, w, s), .inr (1, w, 6 + s), .inl 0, .inl 0, .inl 0, .inl 0, .inl 0, .inl 0, .inl 0])
  | (4, w, _) => .inl (4, [.inl 3, .inr (9, w, 0), .inr (10, w, 0), .inr (11, w, 0), .inr (0, w, 5), .inr (1, w, 11), .inr (1, w, 12), .inr (12, w, 0), .inr (13, w, 0), .inl 0, .inl 0, .inl 0])
  | (5, _, _) => .inl (5, [.inr (4, 0, 0), .inr (14, 0, 0), .inr (15, 0, 0), .inr (2, 0, 0)])
  | (6, _, _) => .inl (6, [.inr (20, 0, 0), .inr (21, 0, 0), .inr (22, 0, 0), .inl 0, .inr (23, 0, 0), .inl 0, .inl 0, .inr (24, 0, 0), .inr (25, 0, 0), .inl 0, .inl 0, .inl 1])
  | (7, _, j) => .inr (0, zz_rl j, zz_nor)
  | (9, w, _) => .inr (2, 5, fun j => (3, w, j))
  | (10, _, _) => .inr (0, 25, zz_nor)
  | (11, _, _) => .inr (0, 5, zz_nor)
  | (12, _, _) => .inr (0, 4, zz_nor)
  | (13, _, _) => .inr (0, 4, zz_nor)
  | (14, _, _) => .inr (3, 2, fun j => (4, j + 1, 0))
  | (15, _, _) => .inr (1, 2, zz_nor)
  | (16, _, _) => .inr (0, 100, zz_nor)
  | (17, _, _) => .inr (0, 34, zz_nor)
  | (18, _, _) => .inr (0, 102, zz_nor)
  | (19, _, _) => .inr (0, 34, zz_nor)
  | (20, _, _) => .inr (0, 1735, zz_nor)
  | (21, _, _) => .inr (0, 3470, zz_nor)
  | (22, _, _) => .inr (0, 2, zz_nor)
  | (23, _, _) => .inr (0, 100, zz_nor)
  | (24, _, _) => .inr (0, 50, zz_nor)
  | (25, _, _) => .inr (0, 200, zz_nor)
  | _ => .inr (0, 0, zz_nor)
def zz_f1 (ad : zR → Nat) (M : zM) (r : zR) (f : Nat ⊕ zR) (k : Nat) : Value := match f with
  | .inl n => if n = 1 then .long M.2 else .int (M.1 r k)
  | .inr q => .ref (ad q)
def zz_fv (ad : zR → Nat) (M : zM) (r : zR) : List (Nat ⊕ zR) → Nat → List Value
  | [], _ => []
  | f :: t, k => zz_f1 ad M r f k :: zz_fv ad M r t (k + 1)
def zz_ce (ad : zR → Nat) (cA : Nat → ClassId) (M : zM) (r : zR) : va_E := match zz_sh r with
  | .inl (ci, fs) => .inr (ci, zz_fv ad M r fs 0)
  | .inr (t, n, f) => .inl (cA t, n, if t < 2 then .inl (M.1 r) else .inr (.inr (.inr (.inr (fun j => some (ad (f j)))))))
def zz_w (G : zG) (M : zM) : va_W := G.2.2.2.2.map (fun r => (G.2.2.1 r, zz_ce G.2.2.1 G.2.2.2.1 M r))
def zz_cl : List vw_C := [(RX0, TX0, 2), (RX1, TX1, 2), (RX2, TX2, 11), (RX3, TX3, 9), (RX4, TX4, 12), (RX5, TX5, 4), (RX6, TX6, 12)]
def zz_ty (cA : Nat → ClassId) : List (ClassId × FieldType) := [(cA 0, .int), (cA 1, .boolean), (cA 2, .object "LeaseCluster$Server"), (cA 3, .object "LeaseCluster$World")]
def zz_A (G : zG) : Nat → Prop := fun q => ∃ r ∈ G.2.2.2.2, G.2.2.1 r = q
def zz_yw : MethodName := ⟨"LeaseCluster", "isWithin", "(III)Z"⟩
def zz_N (U : State) : Prop := va_Nw (.methodLinkNest "LeaseCluster$World" 189 zz_yw "LeaseCluster") U ∧ va_Nw (.methodLinkNest "LeaseCluster$Scenario" 47 zz_yw "LeaseCluster") U
def zz_K (G : zG) (U : State) : Prop := va_K G.2.1 zz_cl (zz_ty G.2.2.2.1) U ∧ zz_N U
def zz_lv (G : zG) : zV → Prop
  | .inl _ => True
  | .inr (.inl _) => True
  | .inr (.inr r) => r ∈ G.2.2.2.2
/-- a world's list of cells: each once, at its own address, with all that it points to -/
def zz_go (G : zG) : Prop := G.2.2.2.2.Nodup ∧ (∀ r ∈ G.2.2.2.2, ∀ q ∈ G.2.2.2.2, G.2.2.1 r = G.2.2.1 q → r = q) ∧
  (∀ r ∈ G.2.2.2.2, ∀ ci fs, zz_sh r = .inl (ci, fs) → ∀ q, .inr q ∈ fs → q ∈ G.2.2.2.2) ∧
  (∀ r ∈ G.2.2.2.2, ∀ t n f, zz_sh r = .inr (t, n, f) → 2 ≤ t → ∀ j, j < n → f j ∈ G.2.2.2.2) ∧
  (∀ r ∈ G.2.2.2.2, ∀ ci fs, zz_sh r = .inl (ci, fs) → .inl 1 ∈ fs → r = (6, 0, 0))
def zz_ws (md : zD) : List Cond := .code md.1 md.2.1 md.2.2.1 md.2.2.2.1 :: gw_tbl
def zz_rm (md : zD) : Room := { frames := md.2.2.2.2.2.1.1, cells := 0, slots := 0, locals := md.2.2.2.2.2.1.2 }
def zz_Q (G : zG) (post : Option zV → zM → Prop) : Array Value → State → Outcome → State → Prop := fun _ st o t =>
  (∃ (r : Option zV) (M : zM), o = .returned (r.map (zz_cv G.2.2.1)) ∧ post r M ∧ (∀ v ∈ r, zz_lv G v) ∧ va_P G.2.1 zz_cl (zz_w G M) t.heap) ∧ va_F (zz_A G) st t
def zz_T (G : zG) (md : zD) (as : List zV) (M : zM) (post : Option zV → zM → Prop) : Prop :=
  (∀ v ∈ as, zz_lv G v) → Met G.1 md.1 (zz_ws md) (zz_rm md) (va_Pc (as.map (zz_cv G.2.2.1)) (fun U => va_P G.2.1 zz_cl (zz_w G M) U.heap ∧ zz_K G U)) (zz_Q G post) 0 0 (zz_A G)
/-! the pure machine: what an instruction does that neither branches nor calls -/
def zz_lk : zL → Nat → Option zV
  | [], _ => none
  | (k, v) :: t, x => match Nat.beq k x with
    | true => some v
    | false => zz_lk t x
def zz_isl : zV → Bool
  | .inr (.inl _) => true
  | _ => false
def zz_r {β : Type} (p : Nat → zV → Bool) : zL → (zL → β) → β
  | [], k => k []
  | (n, v) :: t, k => match p n v with
    | true => zz_r p t k
    | false => zz_r p t (fun t' => k ((n, v) :: t'))
def zz_p1 (x : Nat) : Nat → zV → Bool := fun n v => Nat.beq n x || (Nat.beq (n + 1) x && zz_isl v)
def zz_p2 (x : Nat) : Nat → zV → Bool := fun n v => Nat.beq n x || (Nat.beq n (x + 1) || (Nat.beq (n + 1) x && zz_isl v))
abbrev zO : Type := Option (Option Prop × zL × List zV × zM)
def zz_nth : List (Nat ⊕ zR) → Nat → Option (Nat ⊕ zR)
  | [], _ => none
  | a :: _, 0 => some a
  | _ :: t, n + 1 => zz_nth t n
def zz_cat : zV → Nat
  | .inr (.inl _) => 2
  | _ => 1
def zz_sum : List zV → Nat
  | [] => 0
  | v :: t => zz_cat v + zz_sum t
def zz_stp (op : Nat) (i : Int32) (x y : Nat) (ls : zL) (st : List zV) (M : zM) : zO :=
  match op with
  | 0 => some (none, ls, .inl i :: st, M)
  | 1 => match zz_lk ls x with
    | some (.inl v) => some (none, ls, .inl v :: st, M)
    | _ => none
  | 2 => match st with
    | .inl v :: st => zz_r (zz_p1 x) ls (fun ls' => some (none, (x, .inl v) :: ls', st, M))
    | _ => none
  | 3 => match zz_lk ls x with
    | some (.inr (.inr v)) => some (none, ls, .inr (.inr v) :: st, M)
    | _ => none
  | 4 => match st with
    | .inr (.inr v) :: st => zz_r (zz_p1 x) ls (fun ls' => some (none, (x, .inr (.inr v)) :: ls', st, M))
    | _ => none
  | 5 => match zz_lk ls x with
    | some (.inr (.inl v)) => some (none, ls, .inr (.inl v) :: st, M)
    | _ => none
  | 6 => match st with
    | .inr (.inl v) :: st => zz_r (zz_p2 x) ls (fun ls' => some (none, (x, .inr (.inl v)) :: ls', st, M))
    | _ => none
  | 7 => match zz_lk ls x with
    | some (.inl v) => zz_r (zz_p1 x) ls (fun ls' => some (none, (x, .inl (v + i)) :: ls', st, M))
    | _ => none
  | 8 => match st with
    | .inl b :: .inl a :: st => match x with
      | 0 => some (none, ls, .inl (a + b) :: st, M)
      | 1 => some (none, ls, .inl (a - b) :: st, M)
      | 2 => some (none, ls, .inl (a * b) :: st, M)
      | 3 => some (none, ls, .inl (a &&& b) :: st, M)
      | 4 => some (none, ls, .inl (a ||| b) :: st, M)
      | 5 => some (none, ls, .inl (a ^^^ b) :: st, M)
      | 6 => some (none, ls, .inl (a <<< (b &&& 31)) :: st, M)
      | 7 => some (none, ls, .inl (a >>> (b &&& 31)) :: st, M)
      | 8 => some (none, ls, .inl (a.toUInt32 >>> (b.toUInt32 &&& Int32.toUInt32 31)).toInt32 :: st, M)
      | _ => none
    | _ => none
  | 9 => match st with
    | .inl a :: st => some (none, ls, .inl (-a) :: st, M)
    | _ => none
  | 10 => match st with
    | .inl b :: .inl a :: st => some (some (¬ b = 0), ls, .inl (a / b) :: st, M)
    | _ => none
  | 11 => match st with
    | .inl b :: .inl a :: st => some (some (¬ b = 0), ls, .inl (a - a / b * b) :: st, M)
    | _ => none
  | 12 => match st with
    | .inl a :: st => some (none, ls, .inr (.inl a.toInt64) :: st, M)
    | _ => none
  | 13 => match st with
    | .inr (.inl b) :: .inr (.inl a) :: st => some (none, ls, .inr (.inl (a + b)) :: st, M)
    | _ => none
  | 14 => match st with
    | .inr (.inl b) :: .inr (.inl a) :: st => some (none, ls, .inr (.inl (a * b)) :: st, M)
    | _ => none
  | 15 => match st with
    | .inl a :: st => some (none, ls, .inl a :: .inl a :: st, M)
    | .inr (.inr a) :: st => some (none, ls, .inr (.inr a) :: .inr (.inr a) :: st, M)
    | _ => none
  | 16 => match st with
    | .inl b :: .inr (.inr a) :: st => some (none, ls, .inl b :: .inr (.inr a) :: .inl b :: .inr (.inr a) :: st, M)
    | _ => none
  | 17 => match st with
    | .inl _ :: st => some (none, ls, st, M)
    | _ => none
  | 18 => match st with
    | .inr (.inr r) :: st => match zz_sh r with
      | .inl (ci, fs) => match Nat.beq ci x with
        | true => match zz_nth fs y with
          | some (.inl n) => match Nat.beq n 1 with
            | true => some (none, ls, .inr (.inl M.2) :: st, M)
            | false => some (none, ls, .inl (M.1 r y) :: st, M)
          | some (.inr q) => some (none, ls, .inr (.inr q) :: st, M)
          | none => none
        | false => none
      | .inr _ => none
    | _ => none
  | 19 => match st with
    | .inl v :: .inr (.inr r) :: st => match zz_sh r with
      | .inl (ci, fs) => match Nat.beq ci x with
        | true => match zz_nth fs y with
          | some (.inl n) => match Nat.beq n 0 with
            | true => some (none, ls, st, zz_set M r y v)
            | false => none
          | _ => none
        | false => none
      | .inr _ => none
    | _ => none
  | 20 => match st with
    | .inl v :: .inr (.inr r) :: st => match zz_sh r with
      | .inl (ci, fs) => match Nat.beq ci x with
        | true => match zz_nth fs y with
          | some (.inl n) => match Nat.beq n 2 with
            | true => some (some (v = 0 ∨ v = 1), ls, st, zz_set M r y v)
            | false => none
          | _ => none
        | false => none
      | .inr _ => none
    | _ => none
  | 21 => match st with
    | .inr (.inl v) :: .inr (.inr r) :: st => match zz_sh r with
      | .inl (ci, fs) => match Nat.beq ci x with
        | true => match zz_nth fs y with
          | some (.inl n) => match Nat.beq n 1 with
            | true => some (none, ls, st, zz_setl M v)
            | false => none
          | _ => none
        | false => none
      | .inr _ => none
    | _ => none
  | 22 => match st with
    | .inl a :: .inr (.inr r) :: st => match zz_sh r with
      | .inr (t, n, _) => match Nat.beq t 0 with
        | true => some (some (vp_in a n), ls, .inl (M.1 r (zz_ix a)) :: st, M)
        | false => none
      | .inl _ => none
    | _ => none
  | 23 => match st with
    | .inl v :: .inl a :: .inr (.inr r) :: st => match zz_sh r with
      | .inr (t, n, _) => match Nat.beq t 0 with
        | true => some (some (vp_in a n), ls, st, zz_set M r (zz_ix a) v)
        | false => none
      | .inl _ => none
    | _ => none
  | 24 => match st with
    | .inl a :: .inr (.inr r) :: st => match zz_sh r with
      | .inr (t, n, f) => match Nat.ble 2 t && Nat.ble t 3 with
        | true => some (some (vp_in a n), ls, .inr (.inr (f (zz_ix a))) :: st, M)
        | false => none
      | .inl _ => none
    | _ => none
  | 25 => match st with
    | .inl a :: .inr (.inr r) :: st => match zz_sh r with
      | .inr (t, n, _) => match Nat.beq t 1 with
        | true => some (some (vp_in a n), ls, .inl (M.1 r (zz_ix a)) :: st, M)
        | false => none
      | .inl _ => none
    | _ => none
  | 26 => match st with
    | .inl v :: .inl a :: .inr (.inr r) :: st => match zz_sh r with
      | .inr (t, n, _) => match Nat.beq t 1 with
        | true => some (some (vp_in a n ∧ (v = 0 ∨ v = 1)), ls, st, zz_set M r (zz_ix a) v)
        | false => none
      | .inl _ => none
    | _ => none
  | 27 => match st with
    | .inr (.inr r) :: st => match zz_sh r with
      | .inr (t, n, _) => match Nat.ble t 3 with
        | true => some (none, ls, .inl (nI n) :: st, M)
        | false => none
      | .inl _ => none
    | _ => none
  | 30 => match st with
    | .inl b :: .inl a :: st => match Nat.ble (zz_sum st) 8 with
      | true => some (none, ls, .inl (if a < b then b else a) :: st, M)
      | false => none
    | _ => none
  | 31 => match st with
    | .inl b :: .inl a :: st => match Nat.ble (zz_sum st) 8 with
      | true => some (none, ls, .inl (if b < a then b else a) :: st, M)
      | false => none
    | _ => none
  | 32 => match st with
    | .inl n :: .inl dp :: .inr (.inr a1) :: .inl sp :: .inr (.inr a0) :: st => match zz_sh a0, zz_sh a1 with
      | .inr (t0, n0, _), .inr (t1, n1, _) => match Nat.beq t0 0 && (Nat.beq t1 0 && Nat.ble (zz_sum st) 8) with
        | true => some (some (¬ sp < 0 ∧ ¬ dp < 0 ∧ ¬ n < 0 ∧ zz_ix sp + zz_ix n ≤ n0 ∧ zz_ix dp + zz_ix n ≤ n1), ls, st, zz_cpy M a0 a1 (zz_ix sp) (zz_ix dp) (zz_ix n))
        | false => none
      | _, _ => none
    | _ => none
  | 33 => some (none, ls, .inr (.inl (if Nat.beq x 0 then 2525 else 31)) :: st, M)
  | _ => none
/-! which instruction an entry of a method's table stands for -/
abbrev zX : Type := Except DecodeError (Instr × Nat)
def zz_bin : Nat → Instr
  | 0 => .iadd
  | 1 => .isub
  | 2 => .imul
  | 3 => .iand
  | 4 => .ior
  | 5 => .ixor
  | 6 => .ishl
  | 7 => .ishr
  | _ => .iushr
def zz_find (own : String) (d : zX) (f : Nat → Instr) (n : Nat) (x y : Nat) (l : List (String × Nat × Nat × Nat)) : Bool := l.any (fun q => decide (q.1 = own) && (decide (q.2.2.1 = x) && (decide (q.2.2.2 = y) && decide (d = .ok (f q.2.1, n)))))
def zz_cm (own : String) (rm : Nat × Nat) (nL : Nat) (d : zX) (pc op : Nat) (i : Int32) (x y npc : Nat) : Bool :=
  match op with
  | 0 => (decide (d = .ok (.iconst i.toInt, 1)) && decide (npc = pc + 1)) || ((decide (d = .ok (.bipush i.toInt, 2)) && (decide (npc = pc + 2) && decide ((Int8.ofInt i.toInt).toInt32 = i))) || ((decide (d = .ok (.sipush i.toInt, 3)) && (decide (npc = pc + 3) && decide ((Int16.ofInt i.toInt).toInt32 = i))) ||
      (zz_cs.any (fun q => decide (q.1 = own) && (decide (q.2.2 = i) && ((decide (d = .ok (.ldc q.2.1, 2)) && decide (npc = pc + 2)) || (decide (d = .ok (.ldc_w q.2.1, 3)) && decide (npc = pc + 3))))))))
  | 1 => (decide (d = .ok (.iload_n (Fin.ofNat 4 x), 1)) && (decide (x < 4) && decide (npc = pc + 1))) || (decide (d = .ok (.iload x, 2)) && decide (npc = pc + 2))
  | 2 => decide (x < nL) && ((decide (d = .ok (.istore_n (Fin.ofNat 4 x), 1)) && (decide (x < 4) && decide (npc = pc + 1))) || (decide (d = .ok (.istore x, 2)) && decide (npc = pc + 2)))
  | 3 => (decide (d = .ok (.aload_n (Fin.ofNat 4 x), 1)) && (decide (x < 4) && decide (npc = pc + 1))) || (decide (d = .ok (.aload x, 2)) && decide (npc = pc + 2))
  | 4 => decide (x < nL) && ((decide (d = .ok (.astore_n (Fin.ofNat 4 x), 1)) && (decide (x < 4) && decide (npc = pc + 1))) || (decide (d = .ok (.astore x, 2)) && decide (npc = pc + 2)))
  | 5 => (decide (d = .ok (.lload_n (Fin.ofNat 4 x), 1)) && (decide (x < 4) && decide (npc = pc + 1))) || (decide (d = .ok (.lload x, 2)) && decide (npc = pc + 2))
  | 6 => decide (x + 1 < nL) && ((decide (d = .ok (.lstore_n (Fin.ofNat 4 x), 1)) && (decide (x < 4) && decide (npc = pc + 1))) || (decide (d = .ok (.lstore x, 2)) && decide (npc = pc + 2)))
  | 7 => decide (x < nL) && (decide (d = .ok (.iinc x i.toInt, 3)) && decide (npc = pc + 3))
  | 8 => decide (x < 9) && (decide (d = .ok (zz_bin x, 1)) && decide (npc = pc + 1))
  | 9 => decide (d = .ok (.ineg, 1)) && decide (npc = pc + 1)
  | 10 => decide (d = .ok (.idiv, 1)) && decide (npc = pc + 1)
  | 11 => decide (d = .ok (.irem, 1)) && decide (npc = pc + 1)
  | 12 => decide (d = .ok (.i2l, 1)) && decide (npc = pc + 1)
  | 13 => decide (d = .ok (.ladd, 1)) && decide (npc = pc + 1)
  | 14 => decide (d = .ok (.lmul, 1)) && decide (npc = pc + 1)
  | 15 => decide (d = .ok (.dup, 1)) && decide (npc = pc + 1)
  | 16 => decide (d = .ok (.dup2, 1)) && decide (npc = pc + 1)
  | 17 => decide (d = .ok (.pop, 1)) && decide (npc = pc + 1)
  | 18 => zz_find own d .getfield 3 x y zz_fl && decide (npc = pc + 3)
  | 19 => zz_find own d .putfield 3 x y zz_fl && (decide (npc = pc + 3) && (decide (parseFieldDescriptor (zz_T0 x y).2.2.1 = some .int) && !(zz_T0 x y).2.2.2))
  | 20 => zz_find own d .putfield 3 x y zz_fl && (decide (npc = pc + 3) && (decide (parseFieldDescriptor (zz_T0 x y).2.2.1 = some .boolean) && !(zz_T0 x y).2.2.2))
  | 21 => zz_find own d .putfield 3 x y zz_fl && (decide (npc = pc + 3) && (decide (parseFieldDescriptor (zz_T0 x y).2.2.1 = some .long) && !(zz_T0 x y).2.2.2))
  | 22 => decide (d = .ok (.iaload, 1)) && decide (npc = pc + 1)
  | 23 => decide (d = .ok (.iastore, 1)) && decide (npc = pc + 1)
  | 24 => decide (d = .ok (.aaload, 1)) && decide (npc = pc + 1)
  | 25 => decide (d = .ok (.baload, 1)) && decide (npc = pc + 1)
  | 26 => decide (d = .ok (.bastore, 1)) && decide (npc = pc + 1)
  | 27 => decide (d = .ok (.arraylength, 1)) && decide (npc = pc + 1)
  | 30 => zz_smx.any (fun q => decide (q.1 = own) && (decide (q.2.1 = 0) && decide (d = .ok (.invokestatic q.2.2, 3)))) && (decide (npc = pc + 3) && (decide (1 ≤ rm.1) && decide (21 ≤ rm.2)))
  | 31 => zz_smx.any (fun q => decide (q.1 = own) && (decide (q.2.1 = 1) && decide (d = .ok (.invokestatic q.2.2, 3)))) && (decide (npc = pc + 3) && (decide (1 ≤ rm.1) && decide (21 ≤ rm.2)))
  | 32 => zz_smx.any (fun q => decide (q.1 = own) && (decide (q.2.1 = 2) && decide (d = .ok (.invokestatic q.2.2, 3)))) && (decide (npc = pc + 3) && (decide (1 ≤ rm.1) && decide (26 ≤ rm.2)))
  | 33 => zz_cl2.any (fun q => decide (q.1 = own) && (decide (q.2.2 = x) && decide (d = .ok (.ldc2_w q.2.1, 3)))) && (decide (npc = pc + 3) && decide (x < 2))
  | 40 => decide (d = .ok (.goto ((y : Int) - (pc : Int)), 3))
  | 41 => decide (d = .ok (.ifCond (zz_cd x) ((y : Int) - (pc : Int)), 3)) && (decide (npc = pc + 3) && decide (x < 6))
  | 42 => decide (d = .ok (.if_icmp (zz_cd x) ((y : Int) - (pc : Int)), 3)) && (decide (npc = pc + 3) && decide (x < 6))
  | 43 => (decide (x = 0) && decide (d = .ok (.return_, 1))) || ((decide (x = 1) && decide (d = .ok (.ireturn, 1))) || (decide (x = 2) && decide (d = .ok (.lreturn, 1))))
  | 44 => decide (npc = pc + 3) && ((decide (y = 0) && decide (d = .ok (.invokevirtual x, 3))) || (decide (0 < y) && decide (d = .ok (.invokestatic x, 3))))
  | 45 => true
  | _ => false
