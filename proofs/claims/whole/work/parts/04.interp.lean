/-! the abstract machine: numbers by object and place, longs likewise; locals; a block's walk; a method's answer -/
abbrev z_Mi : Type := Nat → Nat → Int32
abbrev z_Ml : Type := Nat → Nat → Int64
abbrev z_St : Type := z_Mi × z_Ml
abbrev z_Out : Type := Option Value ⊕ Nat
abbrev z_Lo : Type := List (Option Value)
abbrev z_Res : Type := Option (z_Out × z_St)
abbrev z_Ev : Type := Nat → List Value → z_St → z_Res
abbrev z_K : Type := Nat → Nat → z_Lo → List Value → z_St → z_Res
def z_lg : z_Lo → Nat → Option Value
  | [], _ => none
  | v :: _, 0 => v
  | _ :: L, i + 1 => z_lg L i
def z_ls : z_Lo → Nat → Option Value → z_Lo
  | [], _, _ => []
  | _ :: L, 0, v => v :: L
  | a :: L, i + 1, v => a :: z_ls L i v
/-- the place ahead is forgotten if it holds a long -/
def z_fx (L : z_Lo) (i : Nat) : z_Lo := match i with
  | 0 => L
  | j + 1 => match z_lg L j with
    | some (.long _) => z_ls L j none
    | some (.double _) => z_ls L j none
    | _ => L
def z_s1 (L : z_Lo) (i : Nat) (v : Value) : z_Lo := z_ls (z_fx L i) i (some v)
def z_s2 (L : z_Lo) (i : Nat) (v : Value) : z_Lo := z_ls (z_ls (z_fx L i) i (some v)) (i + 1) none
def z_mk : List Bool → z_Lo → z_Lo
  | true :: m, v :: L => v :: z_mk m L
  | false :: m, _ :: L => none :: z_mk m L
  | _, _ => []
def z_w1 (M : z_Mi) (a i : Nat) (v : Int32) : z_Mi := fun b => if b = a then upd (M a) i v else M b
def z_w2 (M : z_Ml) (a i : Nat) (v : Int64) : z_Ml := fun b => if b = a then vp_updL (M a) i v else M b
def z_c1 (M : z_Mi) (a b i j k : Nat) : z_Mi := fun c => if c = b then va_cpy (M a) (M b) i j k else M c
def z_c2 (M : z_Ml) (a b i j k : Nat) : z_Ml := fun c => if c = b then va_cpy (M a) (M b) i j k else M c
def z_ix (i : Int32) (n : Nat) : Bool := !(decide (i < 0)) && decide (i.toNatClampNeg < n)
def z_nb (t : Nat) (x : Int32) : Bool := match t with
  | 0 => true
  | _ => decide (x = 0) || decide (x = 1)
def z_rb (rt : Option FieldType) (x : Int32) : Bool := match rt with
  | some .int => true
  | some .boolean => decide (x = 0) || decide (x = 1)
  | _ => false
def z_cs : List Value → Nat
  | [] => 0
  | v :: r => v.category + z_cs r
def z_tg (pc : Nat) (off : Int) : Nat := ((pc : Int) + off).toNat
def z_pop : Nat → List Value → List Value → Option (List Value × List Value)
  | 0, acc, st => some (acc, st)
  | n + 1, acc, v :: st => z_pop n (v :: acc) st
  | _ + 1, _, [] => none
/-- behind a call: by what it answers -/
def z_clv (r : z_Res) (f : z_St → z_Res) (g : Nat → z_St → z_Res) : z_Res := match r with
  | some (.inl none, S) => f S
  | some (.inr e, S) => g e S
  | _ => none
def z_cli (r : z_Res) (f : Int32 → z_St → z_Res) (g : Nat → z_St → z_Res) : z_Res := match r with
  | some (.inl (some (.int x)), S) => f x S
  | some (.inr e, S) => g e S
  | _ => none
def z_clr (r : z_Res) (f : Nat → z_St → z_Res) (g : Nat → z_St → z_Res) : z_Res := match r with
  | some (.inl (some (.ref x)), S) => f x S
  | some (.inr e, S) => g e S
  | _ => none
def z_hnd (hd : List (Nat × Int32)) (e : Nat) (S : z_St) : z_Res := match hd.find? (fun q => q.1 == e) with
  | some q => some (.inl (some (.int q.2)), S)
  | none => some (.inr e, S)
/-- the texts that the program knows, by their signs -/
def z_tx : List (List Int32) := [[], [98, 111, 111, 107], [112, 97, 114, 116, 115], [114, 101, 97, 100, 101, 114], [99, 111, 108, 111, 117, 114], [98, 97, 99, 107], [101, 110, 100, 115], [115, 116, 111, 112, 115], [111, 114], [97, 110, 100], [110, 111, 116], [112, 97, 103, 101], [108, 101, 102, 116], [105, 110, 116, 111], [114, 101, 97, 100], [104, 111, 117, 114], [100, 97, 121]]
def z_wv : List Int32 := [-1, 6, -1, -1, -1, -1, -1, -1, -1, -1, -1, 0, 1, 2, 3, 4, 5]
/-- the texts of the row 'values' -/
def z_vs : List Nat := [1211, 1212, 1213, 1214, 1215, 1216, 1201]
/-- a switch by a table -/
def z_sw (x : Int32) (d lo hi : Int) (offs : Array Int) (k : Int → z_Res) : z_Res :=
  if x.toInt < lo ∨ hi < x.toInt then k d else match offs[(x.toInt - lo).toNat]? with
    | some o => k o
    | none => none
/-- a call with its things off the stack -/
def z_call (lm : Bool) (hd : List (Nat × Int32)) (E : z_Ev) (go : z_K) (ops : List Nat) (pc z : Nat) (L : z_Lo) (st : List Value) (S : z_St) : z_Res :=
  match ops with
  | m :: n :: kind :: rc :: rt :: _ => match z_pop n [] st with
    | some (as, rest) => cond (Nat.ble (z_cs rest) 8) (
        match kind with
        | 6 => match as with
          | [.ref a, .int i, .ref b, .int j, .int k] =>
            cond (Nat.beq (z_at a) (z_at b) && !(Nat.beq a b) && !(decide (i < 0)) && !(decide (j < 0)) && !(decide (k < 0)) && decide (i.toNatClampNeg + k.toNatClampNeg ≤ z_ln a) && decide (j.toNatClampNeg + k.toNatClampNeg ≤ z_ln b)) (
              match z_at a with
              | 1 => go (pc + 3) z L rest (z_c1 S.1 a b i.toNatClampNeg j.toNatClampNeg k.toNatClampNeg, S.2)
              | 4 => go (pc + 3) z L rest (S.1, z_c2 S.2 a b i.toNatClampNeg j.toNatClampNeg k.toNatClampNeg)
              | _ => none) none
          | _ => none
        | 7 => match as with
          | [.ref a] => cond (Nat.ble 1200 a && Nat.blt a 1217) (go (pc + 3) z L (.int (nI ((z_tx.getD (a - 1200) []).length)) :: rest) S) none
          | _ => none
        | 8 => match as with
          | [.ref a, .int i] => cond (Nat.ble 1200 a && Nat.blt a 1217 && z_ix i (z_tx.getD (a - 1200) []).length) (go (pc + 3) z L (.int ((z_tx.getD (a - 1200) []).getD i.toNatClampNeg 0) :: rest) S) none
          | _ => none
        | 4 => cond (lm && Nat.blt z 100000) (z_cli (E m as S) (fun x S1 => go (pc + 3) (z + 1) L (.int x :: rest) S1) (fun _ _ => none)) none
        | _ => cond (match kind with
            | 0 => true
            | 1 => true
            | 2 => match as with | .ref a :: _ => z_isO rc a | _ => false
            | 3 => match as with | .ref a :: _ => z_isO rc a | _ => false
            | _ => false) (
            match rt with
            | 0 => z_clv (E m as S) (fun S1 => go (pc + 3) z L rest S1) (fun e S1 => cond lm none (z_hnd hd e S1))
            | 1 => z_cli (E m as S) (fun x S1 => go (pc + 3) z L (.int x :: rest) S1) (fun e S1 => cond lm none (z_hnd hd e S1))
            | 3 => z_clr (E m as S) (fun x S1 => go (pc + 3) z L (.ref x :: rest) S1) (fun e S1 => cond lm none (z_hnd hd e S1))
            | _ => none) none) none
    | none => none
  | _ => none
/-- a constant -/
def z_cn (n : Int) : Int32 := match n with
  | .ofNat k => nI k
  | .negSucc k => -nI (k + 1)
def z_o_iconst (go : z_K) (n : Int) (pc z : Nat) (L : z_Lo) (st : List Value) (S : z_St) : z_Res := go (pc + 1) z L (.int (z_cn n) :: st) S
def z_o_bipush (go : z_K) (n : Int) (pc z : Nat) (L : z_Lo) (st : List Value) (S : z_St) : z_Res := go (pc + 2) z L (.int (z_cn n) :: st) S
def z_o_sipush (go : z_K) (n : Int) (pc z : Nat) (L : z_Lo) (st : List Value) (S : z_St) : z_Res := go (pc + 3) z L (.int (z_cn n) :: st) S
def z_o_lconst (go : z_K) (n : Fin 2) (pc z : Nat) (L : z_Lo) (st : List Value) (S : z_St) : z_Res := go (pc + 1) z L (.long (lN n) :: st) S
def z_o_aload_n (go : z_K) (k : Fin 4) (pc z : Nat) (L : z_Lo) (st : List Value) (S : z_St) : z_Res := match z_lg L k with | some (.ref a) => go (pc + 1) z L (.ref a :: st) S | _ => none
def z_o_aload (go : z_K) (k : Nat) (pc z : Nat) (L : z_Lo) (st : List Value) (S : z_St) : z_Res := match z_lg L k with | some (.ref a) => go (pc + 2) z L (.ref a :: st) S | _ => none
def z_o_iload_n (go : z_K) (k : Fin 4) (pc z : Nat) (L : z_Lo) (st : List Value) (S : z_St) : z_Res := match z_lg L k with | some (.int x) => go (pc + 1) z L (.int x :: st) S | _ => none
def z_o_iload (go : z_K) (k : Nat) (pc z : Nat) (L : z_Lo) (st : List Value) (S : z_St) : z_Res := match z_lg L k with | some (.int x) => go (pc + 2) z L (.int x :: st) S | _ => none
def z_o_lload_n (go : z_K) (k : Fin 4) (pc z : Nat) (L : z_Lo) (st : List Value) (S : z_St) : z_Res := match z_lg L k with | some (.long x) => go (pc + 1) z L (.long x :: st) S | _ => none
def z_o_lload (go : z_K) (k : Nat) (pc z : Nat) (L : z_Lo) (st : List Value) (S : z_St) : z_Res := match z_lg L k with | some (.long x) => go (pc + 2) z L (.long x :: st) S | _ => none
def z_o_istore_n (go : z_K) (k : Fin 4) (pc z : Nat) (L : z_Lo) (st : List Value) (S : z_St) : z_Res := match st with | .int x :: r => cond (Nat.blt k L.length) (go (pc + 1) z (z_s1 L k (.int x)) r S) none | _ => none
def z_o_istore (go : z_K) (k : Nat) (pc z : Nat) (L : z_Lo) (st : List Value) (S : z_St) : z_Res := match st with | .int x :: r => cond (Nat.blt k L.length) (go (pc + 2) z (z_s1 L k (.int x)) r S) none | _ => none
def z_o_astore_n (go : z_K) (k : Fin 4) (pc z : Nat) (L : z_Lo) (st : List Value) (S : z_St) : z_Res := match st with | .ref x :: r => cond (Nat.blt k L.length) (go (pc + 1) z (z_s1 L k (.ref x)) r S) none | _ => none
def z_o_astore (go : z_K) (k : Nat) (pc z : Nat) (L : z_Lo) (st : List Value) (S : z_St) : z_Res := match st with | .ref x :: r => cond (Nat.blt k L.length) (go (pc + 2) z (z_s1 L k (.ref x)) r S) none | _ => none
def z_o_lstore_n (go : z_K) (k : Fin 4) (pc z : Nat) (L : z_Lo) (st : List Value) (S : z_St) : z_Res := match st with | .long x :: r => cond (Nat.blt (k + 1) L.length) (go (pc + 1) z (z_s2 L k (.long x)) r S) none | _ => none
def z_o_lstore (go : z_K) (k : Nat) (pc z : Nat) (L : z_Lo) (st : List Value) (S : z_St) : z_Res := match st with | .long x :: r => cond (Nat.blt (k + 1) L.length) (go (pc + 2) z (z_s2 L k (.long x)) r S) none | _ => none
def z_o_iinc (go : z_K) (k : Nat) (n : Int) (pc z : Nat) (L : z_Lo) (st : List Value) (S : z_St) : z_Res := match z_lg L k with | some (.int x) => cond (Nat.blt k L.length) (go (pc + 3) z (z_s1 L k (.int (x + z_cn n))) st S) none | _ => none
def z_o_iadd (go : z_K) (pc z : Nat) (L : z_Lo) (st : List Value) (S : z_St) : z_Res := match st with | .int y :: .int x :: r => go (pc + 1) z L (.int (x + y) :: r) S | _ => none
def z_o_isub (go : z_K) (pc z : Nat) (L : z_Lo) (st : List Value) (S : z_St) : z_Res := match st with | .int y :: .int x :: r => go (pc + 1) z L (.int (x - y) :: r) S | _ => none
def z_o_imul (go : z_K) (pc z : Nat) (L : z_Lo) (st : List Value) (S : z_St) : z_Res := match st with | .int y :: .int x :: r => go (pc + 1) z L (.int (x * y) :: r) S | _ => none
def z_o_iand (go : z_K) (pc z : Nat) (L : z_Lo) (st : List Value) (S : z_St) : z_Res := match st with | .int y :: .int x :: r => go (pc + 1) z L (.int (x &&& y) :: r) S | _ => none
def z_o_ior (go : z_K) (pc z : Nat) (L : z_Lo) (st : List Value) (S : z_St) : z_Res := match st with | .int y :: .int x :: r => go (pc + 1) z L (.int (x ||| y) :: r) S | _ => none
def z_o_ixor (go : z_K) (pc z : Nat) (L : z_Lo) (st : List Value) (S : z_St) : z_Res := match st with | .int y :: .int x :: r => go (pc + 1) z L (.int (x ^^^ y) :: r) S | _ => none
def z_o_ishl (go : z_K) (pc z : Nat) (L : z_Lo) (st : List Value) (S : z_St) : z_Res := match st with | .int y :: .int x :: r => go (pc + 1) z L (.int (x <<< (y &&& 31)) :: r) S | _ => none
def z_o_ishr (go : z_K) (pc z : Nat) (L : z_Lo) (st : List Value) (S : z_St) : z_Res := match st with | .int y :: .int x :: r => go (pc + 1) z L (.int (x >>> (y &&& 31)) :: r) S | _ => none
def z_o_iushr (go : z_K) (pc z : Nat) (L : z_Lo) (st : List Value) (S : z_St) : z_Res := match st with | .int y :: .int x :: r => go (pc + 1) z L (.int (x.toUInt32 >>> (y.toUInt32 &&& Int32.toUInt32 31)).toInt32 :: r) S | _ => none
def z_o_idiv (go : z_K) (pc z : Nat) (L : z_Lo) (st : List Value) (S : z_St) : z_Res := match st with | .int y :: .int x :: r => if y = 0 then none else go (pc + 1) z L (.int (x / y) :: r) S | _ => none
def z_o_irem (go : z_K) (pc z : Nat) (L : z_Lo) (st : List Value) (S : z_St) : z_Res := match st with | .int y :: .int x :: r => if y = 0 then none else go (pc + 1) z L (.int (x - x / y * y) :: r) S | _ => none
def z_o_ineg (go : z_K) (pc z : Nat) (L : z_Lo) (st : List Value) (S : z_St) : z_Res := match st with | .int x :: r => go (pc + 1) z L (.int (-x) :: r) S | _ => none
def z_o_ladd (go : z_K) (pc z : Nat) (L : z_Lo) (st : List Value) (S : z_St) : z_Res := match st with | .long y :: .long x :: r => go (pc + 1) z L (.long (x + y) :: r) S | _ => none
def z_o_lsub (go : z_K) (pc z : Nat) (L : z_Lo) (st : List Value) (S : z_St) : z_Res := match st with | .long y :: .long x :: r => go (pc + 1) z L (.long (x - y) :: r) S | _ => none
def z_o_land (go : z_K) (pc z : Nat) (L : z_Lo) (st : List Value) (S : z_St) : z_Res := match st with | .long y :: .long x :: r => go (pc + 1) z L (.long (x &&& y) :: r) S | _ => none
def z_o_lor (go : z_K) (pc z : Nat) (L : z_Lo) (st : List Value) (S : z_St) : z_Res := match st with | .long y :: .long x :: r => go (pc + 1) z L (.long (x ||| y) :: r) S | _ => none
def z_o_lshl (go : z_K) (pc z : Nat) (L : z_Lo) (st : List Value) (S : z_St) : z_Res := match st with | .int y :: .long x :: r => go (pc + 1) z L (.long (x <<< (y.toInt64 &&& 63)) :: r) S | _ => none
def z_o_lushr (go : z_K) (pc z : Nat) (L : z_Lo) (st : List Value) (S : z_St) : z_Res := match st with | .int y :: .long x :: r => go (pc + 1) z L (.long (x.toUInt64 >>> (y.toInt64.toUInt64 &&& Int64.toUInt64 63)).toInt64 :: r) S | _ => none
def z_o_lcmp (go : z_K) (pc z : Nat) (L : z_Lo) (st : List Value) (S : z_St) : z_Res := match st with | .long y :: .long x :: r => go (pc + 1) z L (.int (lg_cmp x y) :: r) S | _ => none
def z_o_i2l (go : z_K) (pc z : Nat) (L : z_Lo) (st : List Value) (S : z_St) : z_Res := match st with | .int x :: r => go (pc + 1) z L (.long x.toInt64 :: r) S | _ => none
def z_o_l2i (go : z_K) (pc z : Nat) (L : z_Lo) (st : List Value) (S : z_St) : z_Res := match st with | .long x :: r => go (pc + 1) z L (.int x.toInt32 :: r) S | _ => none
def z_o_i2b (go : z_K) (pc z : Nat) (L : z_Lo) (st : List Value) (S : z_St) : z_Res := match st with | .int x :: r => go (pc + 1) z L (.int x.toInt8.toInt32 :: r) S | _ => none
def z_o_dup (go : z_K) (pc z : Nat) (L : z_Lo) (st : List Value) (S : z_St) : z_Res := match st with
    | .int x :: r => go (pc + 1) z L (.int x :: .int x :: r) S
    | .ref x :: r => go (pc + 1) z L (.ref x :: .ref x :: r) S
    | _ => none
def z_o_dup2 (go : z_K) (pc z : Nat) (L : z_Lo) (st : List Value) (S : z_St) : z_Res := match st with | .int x :: .ref a :: r => go (pc + 1) z L (.int x :: .ref a :: .int x :: .ref a :: r) S | _ => none
def z_o_getfield (ops : List Nat) (go : z_K) (pc z : Nat) (L : z_Lo) (st : List Value) (S : z_St) : z_Res := match st with
    | .ref a :: r => match ops with
      | c :: k :: t :: v :: _ => cond (z_isO c a) (
          match t with
          | 0 => go (pc + 3) z L (.int (S.1 a k) :: r) S
          | 1 => cond (decide (S.1 a k = -1)) none (go (pc + 3) z L (.ref (S.1 a k).toNatClampNeg :: r) S)
          | 2 => go (pc + 3) z L (.ref (a + v) :: r) S
          | 3 => go (pc + 3) z L (.ref v :: r) S
          | 4 => go (pc + 3) z L (.ref (a + 200) :: r) S
          | 5 => go (pc + 3) z L (.int (z_wv.getD (a - 1000) 0) :: r) S
          | _ => none) none
      | _ => none
    | _ => none
def z_o_putfield (ops : List Nat) (go : z_K) (pc z : Nat) (L : z_Lo) (st : List Value) (S : z_St) : z_Res := match ops with
    | c :: k :: t :: v :: _ => match st with
      | .int x :: .ref a :: r => cond (z_isO c a && Nat.beq t 0 && z_nb v x) (go (pc + 3) z L r (z_w1 S.1 a k x, S.2)) none
      | .ref b :: .ref a :: r => cond (z_isO c a && Nat.beq t 1 && Nat.blt b 2000) (go (pc + 3) z L r (z_w1 S.1 a k (nI b), S.2)) none
      | _ => none
    | _ => none
def z_o_getstatic (ops : List Nat) (go : z_K) (pc z : Nat) (L : z_Lo) (st : List Value) (S : z_St) : z_Res := match ops with | v :: _ => go (pc + 3) z L (.ref v :: st) S | _ => none
def z_o_ldc (ops : List Nat) (go : z_K) (pc z : Nat) (L : z_Lo) (st : List Value) (S : z_St) : z_Res := match ops with
    | 0 :: v :: _ => go (pc + 2) z L (.int (nI v) :: st) S
    | 1 :: v :: _ => go (pc + 2) z L (.ref v :: st) S
    | _ => none
def z_o_ldc_w (ops : List Nat) (go : z_K) (pc z : Nat) (L : z_Lo) (st : List Value) (S : z_St) : z_Res := match ops with
    | 0 :: v :: _ => go (pc + 3) z L (.int (nI v) :: st) S
    | 1 :: v :: _ => go (pc + 3) z L (.ref v :: st) S
    | _ => none
def z_o_ldc2_w (ops : List Nat) (go : z_K) (pc z : Nat) (L : z_Lo) (st : List Value) (S : z_St) : z_Res := match ops with | v :: _ => go (pc + 3) z L (.long (lN v) :: st) S | _ => none
def z_o_iaload (lm : Bool) (go : z_K) (pc z : Nat) (L : z_Lo) (st : List Value) (S : z_St) : z_Res := match st with
    | .int x :: .ref a :: r => cond (lm && Nat.beq a 1300)
        (cond (z_ix x (S.1 1301 0).toNatClampNeg) (go (pc + 1) z L (.int (S.1 1300 x.toNatClampNeg) :: r) S) none)
        (cond (Nat.beq (z_at a) 1 && z_ix x (z_ln a)) (go (pc + 1) z L (.int (S.1 a x.toNatClampNeg) :: r) S) none)
    | _ => none
def z_o_baload (go : z_K) (pc z : Nat) (L : z_Lo) (st : List Value) (S : z_St) : z_Res := match st with
    | .int x :: .ref a :: r => cond ((Nat.beq (z_at a) 2 || Nat.beq (z_at a) 3) && z_ix x (z_ln a)) (go (pc + 1) z L (.int (S.1 a x.toNatClampNeg) :: r) S) none
    | _ => none
def z_o_laload (go : z_K) (pc z : Nat) (L : z_Lo) (st : List Value) (S : z_St) : z_Res := match st with
    | .int x :: .ref a :: r => cond (Nat.beq (z_at a) 4 && z_ix x (z_ln a)) (go (pc + 1) z L (.long (S.2 a x.toNatClampNeg) :: r) S) none
    | _ => none
def z_o_aaload (go : z_K) (pc z : Nat) (L : z_Lo) (st : List Value) (S : z_St) : z_Res := match st with
    | .int x :: .ref a :: r => cond (Nat.beq a 1100) (cond (z_ix x 17) (go (pc + 1) z L (.ref (1000 + x.toNatClampNeg) :: r) S) none)
        (cond (Nat.beq (z_at a) 5 && z_ix x (z_ln a)) (go (pc + 1) z L (.ref (z_vs.getD x.toNatClampNeg 0) :: r) S) none)
    | _ => none
def z_o_iastore (go : z_K) (pc z : Nat) (L : z_Lo) (st : List Value) (S : z_St) : z_Res := match st with
    | .int v :: .int x :: .ref a :: r => cond (Nat.beq (z_at a) 1 && z_ix x (z_ln a)) (go (pc + 1) z L r (z_w1 S.1 a x.toNatClampNeg v, S.2)) none
    | _ => none
def z_o_bastore (go : z_K) (pc z : Nat) (L : z_Lo) (st : List Value) (S : z_St) : z_Res := match st with
    | .int v :: .int x :: .ref a :: r => cond (z_ix x (z_ln a)) (
        match z_at a with
        | 2 => go (pc + 1) z L r (z_w1 S.1 a x.toNatClampNeg (vp_nar .byte v), S.2)
        | 3 => go (pc + 1) z L r (z_w1 S.1 a x.toNatClampNeg (vp_nar .boolean v), S.2)
        | _ => none) none
    | _ => none
def z_o_lastore (go : z_K) (pc z : Nat) (L : z_Lo) (st : List Value) (S : z_St) : z_Res := match st with
    | .long v :: .int x :: .ref a :: r => cond (Nat.beq (z_at a) 4 && z_ix x (z_ln a)) (go (pc + 1) z L r (S.1, z_w2 S.2 a x.toNatClampNeg v)) none
    | _ => none
def z_o_arraylength (lm : Bool) (go : z_K) (pc z : Nat) (L : z_Lo) (st : List Value) (S : z_St) : z_Res := match st with
    | .ref a :: r => cond (lm && Nat.beq a 1300) (go (pc + 1) z L (.int (S.1 1301 0) :: r) S)
        (cond (Nat.beq a 1100) (go (pc + 1) z L (.int (nI 17) :: r) S)
          (cond (Nat.blt 0 (z_at a)) (go (pc + 1) z L (.int (nI (z_ln a)) :: r) S) none))
    | _ => none
def z_o_ifCond (K : z_K) (go : z_K) (c : ClassFile.Cond) (off : Int) (pc z : Nat) (L : z_Lo) (st : List Value) (S : z_St) : z_Res := match st with
    | .int x :: r => match c with
      | .eq => if x = 0 then K (z_tg pc off) z L r S else go (pc + 3) z L r S
      | .ne => if x = 0 then go (pc + 3) z L r S else K (z_tg pc off) z L r S
      | .lt => if x < 0 then K (z_tg pc off) z L r S else go (pc + 3) z L r S
      | .ge => if 0 ≤ x then K (z_tg pc off) z L r S else go (pc + 3) z L r S
      | .gt => if 0 < x then K (z_tg pc off) z L r S else go (pc + 3) z L r S
      | .le => if x ≤ 0 then K (z_tg pc off) z L r S else go (pc + 3) z L r S
    | _ => none
def z_o_if_icmp (K : z_K) (go : z_K) (c : ClassFile.Cond) (off : Int) (pc z : Nat) (L : z_Lo) (st : List Value) (S : z_St) : z_Res := match st with
    | .int y :: .int x :: r => match c with
      | .eq => if x = y then K (z_tg pc off) z L r S else go (pc + 3) z L r S
      | .ne => if x = y then go (pc + 3) z L r S else K (z_tg pc off) z L r S
      | .lt => if x < y then K (z_tg pc off) z L r S else go (pc + 3) z L r S
      | .ge => if y ≤ x then K (z_tg pc off) z L r S else go (pc + 3) z L r S
      | .gt => if y < x then K (z_tg pc off) z L r S else go (pc + 3) z L r S
      | .le => if x ≤ y then K (z_tg pc off) z L r S else go (pc + 3) z L r S
    | _ => none
def z_o_if_acmp (K : z_K) (go : z_K) (c : ACond) (off : Int) (pc z : Nat) (L : z_Lo) (st : List Value) (S : z_St) : z_Res := match st with
    | .ref y :: .ref x :: r => cond (Nat.ble 1000 x && Nat.blt x 1017 && Nat.ble 1000 y && Nat.blt y 1017) (
        match c with
        | .eq => if x = y then K (z_tg pc off) z L r S else go (pc + 3) z L r S
        | .ne => if x = y then go (pc + 3) z L r S else K (z_tg pc off) z L r S) none
    | _ => none
def z_o_goto (K : z_K) (off : Int) (pc z : Nat) (L : z_Lo) (st : List Value) (S : z_St) : z_Res := K (z_tg pc off) z L st S
def z_o_tableswitch (K : z_K) (d : Int) (lo : Int) (hi : Int) (offs : Array Int) (pc z : Nat) (L : z_Lo) (st : List Value) (S : z_St) : z_Res := match st with
    | .int x :: r => z_sw x d lo hi offs (fun o => K (z_tg pc o) z L r S)
    | _ => none
def z_o_lookupswitch (K : z_K) (d : Int) (ps : Array (Int × Int)) (pc z : Nat) (L : z_Lo) (st : List Value) (S : z_St) : z_Res := match st with
    | .int x :: r => K (z_tg pc (Op.lookupswitch.offset ps.toList d x.toInt)) z L r S
    | _ => none
def z_o_invokevirtual (lm : Bool) (hd : List (Nat × Int32)) (E : z_Ev) (ops : List Nat) (go : z_K) (pc z : Nat) (L : z_Lo) (st : List Value) (S : z_St) : z_Res := z_call lm hd E go ops pc z L st S
def z_o_invokestatic (lm : Bool) (hd : List (Nat × Int32)) (E : z_Ev) (ops : List Nat) (go : z_K) (pc z : Nat) (L : z_Lo) (st : List Value) (S : z_St) : z_Res := z_call lm hd E go ops pc z L st S
def z_o_ireturn (rt : Option FieldType) (pc z : Nat) (L : z_Lo) (st : List Value) (S : z_St) : z_Res := match st with | [.int x] => cond (z_rb rt x) (some (.inl (some (.int x)), S)) none | _ => none
def z_o_areturn (lm : Bool) (pc z : Nat) (L : z_Lo) (st : List Value) (S : z_St) : z_Res := match st with | [.ref x] => cond (!lm) (some (.inl (some (.ref x)), S)) none | _ => none
def z_o_return_ (lm : Bool) (pc z : Nat) (L : z_Lo) (st : List Value) (S : z_St) : z_Res := match st with | [] => cond (!lm) (some (.inl none, S)) none | _ => none
def z_o_athrow (lm : Bool) (ops : List Nat) (pc z : Nat) (L : z_Lo) (st : List Value) (S : z_St) : z_Res := match st with | [] => (match ops with | e :: _ => cond lm none (some (.inr e, S)) | _ => none) | _ => none
/-- one instruction -/
def z_st (lm : Bool) (rt : Option FieldType) (hd : List (Nat × Int32)) (E : z_Ev) (K go : z_K) (i : Instr) (ops : List Nat) (pc z : Nat) (L : z_Lo) (st : List Value) (S : z_St) : z_Res :=
  match i with
  | .iconst n => z_o_iconst go n pc z L st S
  | .bipush n => z_o_bipush go n pc z L st S
  | .sipush n => z_o_sipush go n pc z L st S
  | .lconst n => z_o_lconst go n pc z L st S
  | .aload_n k => z_o_aload_n go k pc z L st S
  | .aload k => z_o_aload go k pc z L st S
  | .iload_n k => z_o_iload_n go k pc z L st S
  | .iload k => z_o_iload go k pc z L st S
  | .lload_n k => z_o_lload_n go k pc z L st S
  | .lload k => z_o_lload go k pc z L st S
  | .istore_n k => z_o_istore_n go k pc z L st S
  | .istore k => z_o_istore go k pc z L st S
  | .astore_n k => z_o_astore_n go k pc z L st S
  | .astore k => z_o_astore go k pc z L st S
  | .lstore_n k => z_o_lstore_n go k pc z L st S
  | .lstore k => z_o_lstore go k pc z L st S
  | .iinc k n => z_o_iinc go k n pc z L st S
  | .iadd => z_o_iadd go pc z L st S
  | .isub => z_o_isub go pc z L st S
  | .imul => z_o_imul go pc z L st S
  | .iand => z_o_iand go pc z L st S
  | .ior => z_o_ior go pc z L st S
  | .ixor => z_o_ixor go pc z L st S
  | .ishl => z_o_ishl go pc z L st S
  | .ishr => z_o_ishr go pc z L st S
  | .iushr => z_o_iushr go pc z L st S
  | .idiv => z_o_idiv go pc z L st S
  | .irem => z_o_irem go pc z L st S
  | .ineg => z_o_ineg go pc z L st S
  | .ladd => z_o_ladd go pc z L st S
  | .lsub => z_o_lsub go pc z L st S
  | .land => z_o_land go pc z L st S
  | .lor => z_o_lor go pc z L st S
  | .lshl => z_o_lshl go pc z L st S
  | .lushr => z_o_lushr go pc z L st S
  | .lcmp => z_o_lcmp go pc z L st S
  | .i2l => z_o_i2l go pc z L st S
  | .l2i => z_o_l2i go pc z L st S
  | .i2b => z_o_i2b go pc z L st S
  | .dup => z_o_dup go pc z L st S
  | .dup2 => z_o_dup2 go pc z L st S
  | .getfield _ => z_o_getfield ops go pc z L st S
  | .putfield _ => z_o_putfield ops go pc z L st S
  | .getstatic _ => z_o_getstatic ops go pc z L st S
  | .ldc _ => z_o_ldc ops go pc z L st S
  | .ldc_w _ => z_o_ldc_w ops go pc z L st S
  | .ldc2_w _ => z_o_ldc2_w ops go pc z L st S
  | .iaload => z_o_iaload lm go pc z L st S
  | .baload => z_o_baload go pc z L st S
  | .laload => z_o_laload go pc z L st S
  | .aaload => z_o_aaload go pc z L st S
  | .iastore => z_o_iastore go pc z L st S
  | .bastore => z_o_bastore go pc z L st S
  | .lastore => z_o_lastore go pc z L st S
  | .arraylength => z_o_arraylength lm go pc z L st S
  | .ifCond c off => z_o_ifCond K go c off pc z L st S
  | .if_icmp c off => z_o_if_icmp K go c off pc z L st S
  | .if_acmp c off => z_o_if_acmp K go c off pc z L st S
  | .goto off => z_o_goto K off pc z L st S
  | .tableswitch d lo hi offs => z_o_tableswitch K d lo hi offs pc z L st S
  | .lookupswitch d ps => z_o_lookupswitch K d ps pc z L st S
  | .invokevirtual _ => z_o_invokevirtual lm hd E ops go pc z L st S
  | .invokestatic _ => z_o_invokestatic lm hd E ops go pc z L st S
  | .ireturn => z_o_ireturn rt pc z L st S
  | .areturn => z_o_areturn lm pc z L st S
  | .return_ => z_o_return_ lm pc z L st S
  | .athrow => z_o_athrow lm ops pc z L st S
  | _ => none
/-- a block -/
def z_ex (lm : Bool) (rt : Option FieldType) (hd : List (Nat × Int32)) (E : z_Ev) (K : z_K) : List z_I → z_K
  | [] => fun pc z L st S => K pc z L st S
  | x :: is => fun pc z L st S => z_st lm rt hd E K (z_ex lm rt hd E K is) x.1 x.2.2 pc z L st S
def z_fnd {α : Type} : List (Nat × α) → Nat → Option α
  | [], _ => none
  | q :: l, k => cond (Nat.beq q.1 k) (some q.2) (z_fnd l k)
/-- a method from one of its blocks on -/
def z_run (lm : Bool) (rt : Option FieldType) (hd : List (Nat × Int32)) (E : z_Ev) (B : z_B) : Nat → z_K
  | 0 => fun _ _ _ _ _ => none
  | n + 1 => fun pc z L st S => match z_fnd B pc with
    | some q => z_ex lm rt hd E (z_run lm rt hd E B n) q.2 pc z (z_mk q.1 L) st S
    | none => none
def z_sl : List Value → z_Lo
  | [] => []
  | .long x :: r => some (.long x) :: none :: z_sl r
  | .double x :: r => some (.double x) :: none :: z_sl r
  | v :: r => some v :: z_sl r
def z_in (n : Nat) (as : List Value) : z_Lo := (z_sl as ++ List.replicate n none).take n
noncomputable def z_fuel : Nat := 1000000
noncomputable def z_m (m : Nat) : MethodName × ByteArray × Nat × Option FieldType × Nat × List (Nat × Int32) := z_md.getD m (⟨"", "", ""⟩, ⟨#[]⟩, 0, none, 0, [])
/-- what a method answers, to a depth of calls -/
noncomputable def z_ev : Nat → z_Ev
  | 0 => fun _ _ _ => none
  | d + 1 => fun m as S => z_run false (z_m m).2.2.2.1 (z_m m).2.2.2.2.2 (z_ev d) (z_bs.getD m []) z_fuel 0 0 (z_in (z_m m).2.2.1 as) [] S
