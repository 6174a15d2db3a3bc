/-! THE ENGINE: an abstract machine over a world of fixed shape (cells by their places, contents by functions), and its tables. -/
abbrev en_S : Type := (Nat → Nat → Int32) × (Nat → Nat → Int64)
abbrev en_O : Type := (Option Value ⊕ Nat) × en_S
abbrev en_L : Type := List (Option Value)
/-- fields (method, pool index: class, slot), calls (kind, callee, stack entries, class), ldc, ldc2, throws (method, pc: kind), return types, shape, strings -/
abbrev en_G : Type := (Nat → Nat → Option (Nat × Nat)) × (Nat → Nat → Option (Nat × Nat × Nat × Nat)) × (Nat → Nat → Option (Int32 ⊕ Nat)) × (Nat → Nat → Option Int64) × (Nat → Nat → Option Nat) × (Nat → Option FieldType) × List (Nat × List Nat) × (Nat → List Int32)
def en_FD (G : en_G) : Nat → Nat → Option (Nat × Nat) := G.1
def en_CL (G : en_G) : Nat → Nat → Option (Nat × Nat × Nat × Nat) := G.2.1
def en_KC (G : en_G) : Nat → Nat → Option (Int32 ⊕ Nat) := G.2.2.1
def en_KL (G : en_G) : Nat → Nat → Option Int64 := G.2.2.2.1
def en_TH (G : en_G) : Nat → Nat → Option Nat := G.2.2.2.2.1
def en_RT (G : en_G) : Nat → Option FieldType := G.2.2.2.2.2.1
def en_SH (G : en_G) : List (Nat × List Nat) := G.2.2.2.2.2.2.1
def en_SB (G : en_G) : Nat → List Int32 := G.2.2.2.2.2.2.2
/-- an index that is in its row -/
abbrev en_in (i : Int32) (n : Nat) : Prop := ¬ (i < 0 ∨ n ≤ i.toNatClampNeg)
/-- storing a local: a long that reaches into it is lost -/
def en_clr (L : en_L) : Nat → en_L
  | 0 => L
  | j + 1 => match L[j]? with
    | some (some (.long _)) => L.set j none
    | some (some (.double _)) => L.set j none
    | _ => L
def en_set (L : en_L) (i : Nat) (v : Option Value) : en_L := (en_clr L i).set i v
def en_fld (G : en_G) (σ : en_S) (p ci k : Nat) : Option Value := match (en_SH G)[p]? with
  | some (c, ds) => if c = ci then (match ds[k]? with
    | some 0 => some (.int (σ.1 p k))
    | some 1 => some (.long (σ.2 p k))
    | some 2 => some (.int (σ.1 p k))
    | some (q + 3) => some (.ref q)
    | none => none) else none
  | none => none
def en_u1 (f : Nat → Nat → Int32) (p i : Nat) (v : Int32) : Nat → Nat → Int32 := fun q => if q = p then upd (f p) i v else f q
def en_u2 (f : Nat → Nat → Int64) (p i : Nat) (v : Int64) : Nat → Nat → Int64 := fun q => if q = p then vp_updL (f p) i v else f q
def en_uf (f : Nat → Nat → Int32) (p : Nat) (g : Nat → Int32) : Nat → Nat → Int32 := fun q => if q = p then g else f q
def en_put (G : en_G) (σ : en_S) (p ci k : Nat) (v : Value) : Option en_S := match (en_SH G)[p]? with
  | some (c, ds) => if c = ci then (match ds[k]?, v with
    | some 0, .int x => some (en_u1 σ.1 p k x, σ.2)
    | some 1, .long x => some (σ.1, en_u2 σ.2 p k x)
    | some 2, .int x => if x = 0 ∨ x = 1 then some (en_u1 σ.1 p k x, σ.2) else none
    | _, _ => none) else none
  | none => none
def en_arr (G : en_G) (p kind : Nat) : Option Nat := match (en_SH G)[p]? with
  | some (c, n :: _) => if c = kind then some n else none
  | _ => none
def en_cI (o : Option en_O) (ki : Int32 → en_S → Option en_O) (kx : Nat → en_S → Option en_O) : Option en_O := match o with
  | some (.inl (some (.int r)), σ) => ki r σ
  | some (.inr e, σ) => kx e σ
  | _ => none
def en_cJ (o : Option en_O) (kl : Int64 → en_S → Option en_O) (kx : Nat → en_S → Option en_O) : Option en_O := match o with
  | some (.inl (some (.long r)), σ) => kl r σ
  | some (.inr e, σ) => kx e σ
  | _ => none
def en_cV (o : Option en_O) (kv : en_S → Option en_O) (kx : Nat → en_S → Option en_O) : Option en_O := match o with
  | some (.inl none, σ) => kv σ
  | some (.inr e, σ) => kx e σ
  | _ => none
abbrev en_K : Type := Nat → en_L → List Value → en_S → Option en_O
/-- what comes back from a call, by its type -/
def en_back (rt : Option FieldType) (o : Option en_O) (k : List Value → en_S → Option en_O) (kx : Nat → en_S → Option en_O) : Option en_O := match rt with
  | none => en_cV o (fun σ => k [] σ) kx
  | some .long => en_cJ o (fun r σ => k [.long r] σ) kx
  | some .int => en_cI o (fun r σ => k [.int r] σ) kx
  | some .boolean => en_cI o (fun r σ => k [.int r] σ) kx
  | _ => none
def en_retI (rt : Option FieldType) (v : Int32) (σ : en_S) : Option en_O := match rt with
  | some .int => some (.inl (some (.int v)), σ)
  | some .boolean => if v = 0 ∨ v = 1 then some (.inl (some (.int v)), σ) else none
  | _ => none
def en_tgt (pc : Nat) (off : Int) : Nat := ((pc : Int) + off).toNat
/-- tableswitch: row by row -/
def en_sw (x : Int32) (pc : Nat) (dflt : Int) (k : Nat → Option en_O) : Int → List Int → Option en_O
  | _, [] => k (en_tgt pc dflt)
  | lo, o :: r => if x = Int32.ofInt lo then k (en_tgt pc o) else en_sw x pc dflt k (lo + 1) r
def en_lk (x : Int32) (pc : Nat) (dflt : Int) (k : Nat → Option en_O) : List (Int × Int) → Option en_O
  | [] => k (en_tgt pc dflt)
  | o :: r => if x = Int32.ofInt o.1 then k (en_tgt pc o.2) else en_lk x pc dflt k r
/-- indexOf on what is left of a text, from place k on -/
def en_ixF (c : Int32) : List Int32 → Nat → Int32
  | [], _ => -1
  | b :: l, k => if b &&& 255 = c then nI k else en_ixF c l (k + 1)
def en_cat (v : Value) : Nat := v.category
def en_ushr (x y : Int32) : Int32 := (x.toUInt32 >>> (y.toUInt32 &&& Int32.toUInt32 31)).toInt32
def en_small (st : List Value) : Bool := decide ((st.map fun v => v.category).sum ≤ 8)
def en_one (as : List Value) : Bool := as.all fun v => decide (v.category = 1)
/-- calls of instance methods: 0 a method, 5 length, 6 charAt, 7 indexOf -/
def en_inV (G : en_G) (mi idx pc : Nat) (L : en_L) (st : List Value) (σ : en_S) (k : en_K) (call : Nat → List Value → en_S → Option en_O) (kx : Nat → en_L → Nat → en_S → Option en_O) : Option en_O := match en_CL G mi idx with
  | some (0, y, n, ci) => if n ≤ st.length ∧ en_small (st.drop n) = true ∧ en_one (st.take n) = true then (match (st.take n).reverse with
      | .ref p :: as => if ((en_SH G)[p]?).map (·.1) = some ci then en_back (en_RT G y) (call y (.ref p :: as) σ) (fun v σ => k (pc + 3) L (v ++ st.drop n) σ) (kx pc L) else none
      | _ => none) else none
  | some (5, _, _, _) => match st with
    | .ref p :: r => if 1000 ≤ p ∧ en_small r = true then k (pc + 3) L (.int (nI (en_SB G (p - 1000)).length) :: r) σ else none
    | _ => none
  | some (6, _, _, _) => match st with
    | .int i :: .ref p :: r => if 1000 ≤ p ∧ en_small r = true ∧ en_in i (en_SB G (p - 1000)).length then k (pc + 3) L (.int ((en_SB G (p - 1000)).getD i.toNatClampNeg 0 &&& 255) :: r) σ else none
    | _ => none
  | some (7, _, _, _) => match st with
    | .int c :: .ref p :: r => if 1000 ≤ p ∧ en_small r = true then k (pc + 3) L (.int (en_ixF c (en_SB G (p - 1000)) 0) :: r) σ else none
    | _ => none
  | _ => none
/-- calls of static methods: 1 a method, 2 Math.max, 3 Math.min, 4 arraycopy -/
def en_inS (G : en_G) (mi idx pc : Nat) (L : en_L) (st : List Value) (σ : en_S) (k : en_K) (call : Nat → List Value → en_S → Option en_O) (kx : Nat → en_L → Nat → en_S → Option en_O) : Option en_O := match en_CL G mi idx with
  | some (1, y, n, _) => if n ≤ st.length ∧ en_small (st.drop n) = true ∧ en_one (st.take n) = true then en_back (en_RT G y) (call y (st.take n).reverse σ) (fun v σ => k (pc + 3) L (v ++ st.drop n) σ) (kx pc L) else none
  | some (2, _, _, _) => match st with
    | .int y :: .int x :: r => if en_small r = true then k (pc + 3) L (.int (if x < y then y else x) :: r) σ else none
    | _ => none
  | some (3, _, _, _) => match st with
    | .int y :: .int x :: r => if en_small r = true then k (pc + 3) L (.int (if y < x then y else x) :: r) σ else none
    | _ => none
  | some (4, _, _, _) => match st with
    | .int n :: .int dp :: .ref q :: .int sp :: .ref p :: r => if en_small r = true then (match en_arr G p 20, en_arr G q 20 with
        | some n0, some n1 => if ¬ sp < 0 ∧ ¬ dp < 0 ∧ ¬ n < 0 ∧ sp.toNatClampNeg + n.toNatClampNeg ≤ n0 ∧ dp.toNatClampNeg + n.toNatClampNeg ≤ n1 then k (pc + 3) L r (en_uf σ.1 q (va_cpy (σ.1 p) (σ.1 q) sp.toNatClampNeg dp.toNatClampNeg n.toNatClampNeg), σ.2) else none
        | _, _ => none) else none
    | _ => none
  | _ => none
def en_if (b : ClassFile.Cond) (x y : Int32) (kt kf : Option en_O) : Option en_O := match b with
  | .eq => if x = y then kt else kf
  | .ne => if x = y then kf else kt
  | .lt => if x < y then kt else kf
  | .ge => if y ≤ x then kt else kf
  | .gt => if y < x then kt else kf
  | .le => if x ≤ y then kt else kf
def en_step (G : en_G) (mi pc : Nat) (i : Instr) (L : en_L) (st : List Value) (σ : en_S) (k : en_K) (call : Nat → List Value → en_S → Option en_O) (kx : Nat → en_L → Nat → en_S → Option en_O) : Option en_O := match i with
  | .iconst n => k (pc + 1) L (.int (Int32.ofInt n) :: st) σ
  | .bipush n => k (pc + 2) L (.int ((Int8.ofInt n).toInt32) :: st) σ
  | .sipush n => k (pc + 3) L (.int ((Int16.ofInt n).toInt32) :: st) σ
  | .lconst n => k (pc + 1) L (.long (Int64.ofNat (n : Nat)) :: st) σ
  | .ldc idx => match en_KC G mi idx with
    | some (.inl v) => k (pc + 2) L (.int v :: st) σ
    | some (.inr q) => k (pc + 2) L (.ref q :: st) σ
    | none => none
  | .ldc_w idx => match en_KC G mi idx with
    | some (.inl v) => k (pc + 3) L (.int v :: st) σ
    | _ => none
  | .ldc2_w idx => match en_KL G mi idx with
    | some v => k (pc + 3) L (.long v :: st) σ
    | none => none
  | .iload_n j => match L[(j : Nat)]? with
    | some (some (.int x)) => k (pc + 1) L (.int x :: st) σ
    | _ => none
  | .iload j => match L[j]? with
    | some (some (.int x)) => k (pc + 2) L (.int x :: st) σ
    | _ => none
  | .lload j => match L[j]? with
    | some (some (.long x)) => k (pc + 2) L (.long x :: st) σ
    | _ => none
  | .aload_n j => match L[(j : Nat)]? with
    | some (some (.ref x)) => k (pc + 1) L (.ref x :: st) σ
    | _ => none
  | .aload j => match L[j]? with
    | some (some (.ref x)) => k (pc + 2) L (.ref x :: st) σ
    | _ => none
  | .istore_n j => match st with
    | .int x :: r => if (j : Nat) < L.length then k (pc + 1) (en_set L j (some (.int x))) r σ else none
    | _ => none
  | .istore j => match st with
    | .int x :: r => if j < L.length then k (pc + 2) (en_set L j (some (.int x))) r σ else none
    | _ => none
  | .lstore j => match st with
    | .long x :: r => if j + 1 < L.length then k (pc + 2) ((en_set L j (some (.long x))).set (j + 1) none) r σ else none
    | _ => none
  | .iinc j n => match L[j]? with
    | some (some (.int x)) => k (pc + 3) (en_set L j (some (.int (x + Int32.ofInt n)))) st σ
    | _ => none
  | .iadd => match st with
    | .int y :: .int x :: r => k (pc + 1) L (.int (x + y) :: r) σ
    | _ => none
  | .isub => match st with
    | .int y :: .int x :: r => k (pc + 1) L (.int (x - y) :: r) σ
    | _ => none
  | .imul => match st with
    | .int y :: .int x :: r => k (pc + 1) L (.int (x * y) :: r) σ
    | _ => none
  | .idiv => match st with
    | .int y :: .int x :: r => if y = 0 then none else k (pc + 1) L (.int (x / y) :: r) σ
    | _ => none
  | .irem => match st with
    | .int y :: .int x :: r => if y = 0 then none else k (pc + 1) L (.int (x - x / y * y) :: r) σ
    | _ => none
  | .iand => match st with
    | .int y :: .int x :: r => k (pc + 1) L (.int (x &&& y) :: r) σ
    | _ => none
  | .ior => match st with
    | .int y :: .int x :: r => k (pc + 1) L (.int (x ||| y) :: r) σ
    | _ => none
  | .ixor => match st with
    | .int y :: .int x :: r => k (pc + 1) L (.int (x ^^^ y) :: r) σ
    | _ => none
  | .ishl => match st with
    | .int y :: .int x :: r => k (pc + 1) L (.int (x <<< (y &&& 31)) :: r) σ
    | _ => none
  | .ishr => match st with
    | .int y :: .int x :: r => k (pc + 1) L (.int (x >>> (y &&& 31)) :: r) σ
    | _ => none
  | .iushr => match st with
    | .int y :: .int x :: r => k (pc + 1) L (.int ((x.toUInt32 >>> (y.toUInt32 &&& Int32.toUInt32 31)).toInt32) :: r) σ
    | _ => none
  | .ineg => match st with
    | .int x :: r => k (pc + 1) L (.int (-x) :: r) σ
    | _ => none
  | .lshl => match st with
    | .int y :: .long x :: r => k (pc + 1) L (.long (x <<< (y.toInt64 &&& 63)) :: r) σ
    | _ => none
  | .lor => match st with
    | .long y :: .long x :: r => k (pc + 1) L (.long (x ||| y) :: r) σ
    | _ => none
  | .lsub => match st with
    | .long y :: .long x :: r => k (pc + 1) L (.long (x - y) :: r) σ
    | _ => none
  | .lcmp => match st with
    | .long y :: .long x :: r => k (pc + 1) L (.int (lg_cmp x y) :: r) σ
    | _ => none
  | .i2l => match st with
    | .int x :: r => k (pc + 1) L (.long x.toInt64 :: r) σ
    | _ => none
  | .i2b => match st with
    | .int x :: r => k (pc + 1) L (.int x.toInt8.toInt32 :: r) σ
    | _ => none
  | .i2c => match st with
    | .int x :: r => k (pc + 1) L (.int (x.toUInt32 % 65536).toInt32 :: r) σ
    | _ => none
  | .dup => match st with
    | .int x :: r => k (pc + 1) L (.int x :: .int x :: r) σ
    | .ref x :: r => k (pc + 1) L (.ref x :: .ref x :: r) σ
    | _ => none
  | .dup2 => match st with
    | .int x :: .ref y :: r => k (pc + 1) L (.int x :: .ref y :: .int x :: .ref y :: r) σ
    | _ => none
  | .pop => match st with
    | .int _ :: r => k (pc + 1) L r σ
    | _ => none
  | .ifCond b off => match st with
    | .int x :: r => en_if b x 0 (k (en_tgt pc off) L r σ) (k (pc + 3) L r σ)
    | _ => none
  | .if_icmp b off => match st with
    | .int y :: .int x :: r => en_if b x y (k (en_tgt pc off) L r σ) (k (pc + 3) L r σ)
    | _ => none
  | .goto off => k (en_tgt pc off) L st σ
  | .tableswitch dflt lo _ offs => match st with
    | .int x :: r => en_sw x pc dflt (fun t => k t L r σ) lo offs.toList
    | _ => none
  | .lookupswitch dflt ps => match st with
    | .int x :: r => en_lk x pc dflt (fun t => k t L r σ) ps.toList
    | _ => none
  | .getfield idx => match en_FD G mi idx, st with
    | some (ci, f), .ref p :: r => (match en_fld G σ p ci f with
      | some v => k (pc + 3) L (v :: r) σ
      | none => none)
    | _, _ => none
  | .putfield idx => match en_FD G mi idx, st with
    | some (ci, f), v :: .ref p :: r => (match en_put G σ p ci f v with
      | some σ' => k (pc + 3) L r σ'
      | none => none)
    | _, _ => none
  | .iaload => match st with
    | .int j :: .ref p :: r => (match en_arr G p 20 with
      | some n => if en_in j n then k (pc + 1) L (.int (σ.1 p j.toNatClampNeg) :: r) σ else none
      | none => none)
    | _ => none
  | .laload => match st with
    | .int j :: .ref p :: r => (match en_arr G p 23 with
      | some n => if en_in j n then k (pc + 1) L (.long (σ.2 p j.toNatClampNeg) :: r) σ else none
      | none => none)
    | _ => none
  | .baload => match st with
    | .int j :: .ref p :: r => (match en_arr G p 21 with
      | some n => if en_in j n then k (pc + 1) L (.int (σ.1 p j.toNatClampNeg) :: r) σ else none
      | none => (match en_arr G p 22 with
        | some n => if en_in j n then k (pc + 1) L (.int (σ.1 p j.toNatClampNeg) :: r) σ else none
        | none => none))
    | _ => none
  | .iastore => match st with
    | .int x :: .int j :: .ref p :: r => (match en_arr G p 20 with
      | some n => if en_in j n then k (pc + 1) L r (en_u1 σ.1 p j.toNatClampNeg x, σ.2) else none
      | none => none)
    | _ => none
  | .lastore => match st with
    | .long x :: .int j :: .ref p :: r => (match en_arr G p 23 with
      | some n => if en_in j n then k (pc + 1) L r (σ.1, en_u2 σ.2 p j.toNatClampNeg x) else none
      | none => none)
    | _ => none
  | .bastore => match st with
    | .int x :: .int j :: .ref p :: r => (match en_arr G p 21 with
      | some n => if en_in j n then k (pc + 1) L r (en_u1 σ.1 p j.toNatClampNeg (vp_nar .byte x), σ.2) else none
      | none => (match en_arr G p 22 with
        | some n => if en_in j n then k (pc + 1) L r (en_u1 σ.1 p j.toNatClampNeg (vp_nar .boolean x), σ.2) else none
        | none => none))
    | _ => none
  | .arraylength => match st with
    | .ref p :: r => (match en_arr G p 20 with
      | some n => k (pc + 1) L (.int (Int32.ofNat n) :: r) σ
      | none => (match en_arr G p 21 with
        | some n => k (pc + 1) L (.int (Int32.ofNat n) :: r) σ
        | none => none))
    | _ => none
  | .invokevirtual idx => en_inV G mi idx pc L st σ k call kx
  | .invokestatic idx => en_inS G mi idx pc L st σ k call kx
  | .new _ => match en_TH G mi pc with
    | some x => if en_small st = true then some (.inr x, σ) else none
    | none => none
  | .ireturn => match st with
    | [.int v] => en_retI (en_RT G mi) v σ
    | _ => none
  | .lreturn => match st with
    | [.long v] => if en_RT G mi = some .long then some (.inl (some (.long v)), σ) else none
    | _ => none
  | .return_ => match st with
    | [] => if en_RT G mi = none then some (.inl none, σ) else none
    | _ => none
  | _ => none
/-- a method's rows: (pc, instruction, the locals that live there where it is a cut) -/
abbrev en_P : Type := Nat → List (Nat × Instr × Option (List Bool))
def en_get : List (Nat × Instr × Option (List Bool)) → Nat → Option (Instr × Option (List Bool))
  | [], _ => none
  | (q, i, m) :: r, pc => if q = pc then some (i, m) else en_get r pc
def en_msk : Option (List Bool) → en_L → en_L
  | none, L => L
  | some bs, L => List.zipWith (fun b v => if b = true then v else none) bs L
def en_ent (n : Nat) (as : List Value) : en_L := as.map some ++ List.replicate (n - as.length) none
/-- the handler of a method for what its callee throws: (kind, its pc, the local that takes it, where it goes on) -/
abbrev en_H : Type := Nat → Nat → Nat → Option (Nat × Nat)
def en_hx (x : Nat) (h : Option (Nat × Nat)) (k : Nat → Nat → Option en_O) (e : Nat) (σ : en_S) : Option en_O := match h with
  | none => some (.inr e, σ)
  | some (t, j) => if x = 1 then k t j else none
/-- the machine: n steps at most; x: how often it may catch; ML: locals of a method -/
def en_run (G : en_G) (P : en_P) (ML : Nat → Nat) (HD : en_H) : Nat → Nat → Nat → Nat → en_L → List Value → en_S → Option en_O
  | 0, _, _, _, _, _, _ => none
  | n + 1, x, mi, pc, L, st, σ => match en_get (P mi) pc with
    | none => none
    | some (i, m) => en_step G mi pc i (en_msk m L) st σ (fun pc' L' st' σ' => en_run G P ML HD n x mi pc' L' st' σ') (fun y as σ' => en_run G P ML HD n 0 y 0 (en_ent (ML y) as) [] σ')
      (fun pc' L' e σ' => en_hx x (HD mi pc' e) (fun t j => en_run G P ML HD n 0 mi t (en_set L' j none) [] σ') e σ')
