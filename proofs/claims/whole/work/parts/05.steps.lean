/-! a block's walk, a row an instruction: what it comes to if the rest comes to R -/
section ZS
variable {lm : Bool} {rt : Option FieldType} {hd : List (Nat × Int32)} {E : z_Ev} {K : z_K} {is : List z_I} {len : Nat} {ops : List Nat} {pc z : Nat} {L : z_Lo} {st r : List Value} {S : z_St} {R A B : z_Res}
theorem zs_cd {c : Bool} (hc : c = true) (h : A = R) : cond c A none = R := by subst hc; exact h
theorem zs_cf {c : Bool} (hc : c = false) (h : B = R) : cond c A B = R := by subst hc; exact h
theorem zs_cc {c : Bool} {A' : z_Res} (h : A = A') : cond c A none = cond c A' none := by subst h; rfl
theorem zs_ct {c : Bool} (hc : c = true) (h : A = R) : cond c A B = R := by subst hc; exact h
theorem zs_nil (h : K pc z L st S = R) : z_ex lm rt hd E K [] pc z L st S = R := h
theorem zs_iconst {n : Int} {v : Int32} (hv : z_cn n = v) (h : z_ex lm rt hd E K is (pc + 1) z L (.int v :: st) S = R) : z_ex lm rt hd E K ((.iconst n, len, ops) :: is) pc z L st S = R := by subst hv; exact h
theorem zs_bipush {n : Int} {v : Int32} (hv : z_cn n = v) (h : z_ex lm rt hd E K is (pc + 2) z L (.int v :: st) S = R) : z_ex lm rt hd E K ((.bipush n, len, ops) :: is) pc z L st S = R := by subst hv; exact h
theorem zs_sipush {n : Int} {v : Int32} (hv : z_cn n = v) (h : z_ex lm rt hd E K is (pc + 3) z L (.int v :: st) S = R) : z_ex lm rt hd E K ((.sipush n, len, ops) :: is) pc z L st S = R := by subst hv; exact h
theorem zs_lconst {n : Fin 2} {v : Int64} (hv : lN n = v) (h : z_ex lm rt hd E K is (pc + 1) z L (.long v :: st) S = R) : z_ex lm rt hd E K ((.lconst n, len, ops) :: is) pc z L st S = R := by subst hv; exact h
theorem zs_aload_n {k : Fin 4} {a : Nat} (hl : z_lg L k = some (.ref a)) (h : z_ex lm rt hd E K is (pc + 1) z L (.ref a :: st) S = R) : z_ex lm rt hd E K ((.aload_n k, len, ops) :: is) pc z L st S = R := by
  show z_o_aload_n _ _ _ _ _ _ _ = R; unfold z_o_aload_n; rw [hl]; exact h
theorem zs_aload {k : Nat} {a : Nat} (hl : z_lg L k = some (.ref a)) (h : z_ex lm rt hd E K is (pc + 2) z L (.ref a :: st) S = R) : z_ex lm rt hd E K ((.aload k, len, ops) :: is) pc z L st S = R := by
  show z_o_aload _ _ _ _ _ _ _ = R; unfold z_o_aload; rw [hl]; exact h
theorem zs_iload_n {k : Fin 4} {a : Int32} (hl : z_lg L k = some (.int a)) (h : z_ex lm rt hd E K is (pc + 1) z L (.int a :: st) S = R) : z_ex lm rt hd E K ((.iload_n k, len, ops) :: is) pc z L st S = R := by
  show z_o_iload_n _ _ _ _ _ _ _ = R; unfold z_o_iload_n; rw [hl]; exact h
theorem zs_iload {k : Nat} {a : Int32} (hl : z_lg L k = some (.int a)) (h : z_ex lm rt hd E K is (pc + 2) z L (.int a :: st) S = R) : z_ex lm rt hd E K ((.iload k, len, ops) :: is) pc z L st S = R := by
  show z_o_iload _ _ _ _ _ _ _ = R; unfold z_o_iload; rw [hl]; exact h
theorem zs_lload_n {k : Fin 4} {a : Int64} (hl : z_lg L k = some (.long a)) (h : z_ex lm rt hd E K is (pc + 1) z L (.long a :: st) S = R) : z_ex lm rt hd E K ((.lload_n k, len, ops) :: is) pc z L st S = R := by
  show z_o_lload_n _ _ _ _ _ _ _ = R; unfold z_o_lload_n; rw [hl]; exact h
theorem zs_lload {k : Nat} {a : Int64} (hl : z_lg L k = some (.long a)) (h : z_ex lm rt hd E K is (pc + 2) z L (.long a :: st) S = R) : z_ex lm rt hd E K ((.lload k, len, ops) :: is) pc z L st S = R := by
  show z_o_lload _ _ _ _ _ _ _ = R; unfold z_o_lload; rw [hl]; exact h
theorem zs_istore_n {k : Fin 4} {x : Int32} {L' : z_Lo} (hn : Nat.blt k L.length = true) (hl : z_s1 L k (.int x) = L') (h : z_ex lm rt hd E K is (pc + 1) z L' r S = R) : z_ex lm rt hd E K ((.istore_n k, len, ops) :: is) pc z L (.int x :: r) S = R := by subst hl; exact zs_cd hn h
theorem zs_istore {k : Nat} {x : Int32} {L' : z_Lo} (hn : Nat.blt k L.length = true) (hl : z_s1 L k (.int x) = L') (h : z_ex lm rt hd E K is (pc + 2) z L' r S = R) : z_ex lm rt hd E K ((.istore k, len, ops) :: is) pc z L (.int x :: r) S = R := by subst hl; exact zs_cd hn h
theorem zs_astore_n {k : Fin 4} {x : Nat} {L' : z_Lo} (hn : Nat.blt k L.length = true) (hl : z_s1 L k (.ref x) = L') (h : z_ex lm rt hd E K is (pc + 1) z L' r S = R) : z_ex lm rt hd E K ((.astore_n k, len, ops) :: is) pc z L (.ref x :: r) S = R := by subst hl; exact zs_cd hn h
theorem zs_astore {k : Nat} {x : Nat} {L' : z_Lo} (hn : Nat.blt k L.length = true) (hl : z_s1 L k (.ref x) = L') (h : z_ex lm rt hd E K is (pc + 2) z L' r S = R) : z_ex lm rt hd E K ((.astore k, len, ops) :: is) pc z L (.ref x :: r) S = R := by subst hl; exact zs_cd hn h
theorem zs_lstore_n {k : Fin 4} {x : Int64} {L' : z_Lo} (hn : Nat.blt (k + 1) L.length = true) (hl : z_s2 L k (.long x) = L') (h : z_ex lm rt hd E K is (pc + 1) z L' r S = R) : z_ex lm rt hd E K ((.lstore_n k, len, ops) :: is) pc z L (.long x :: r) S = R := by subst hl; exact zs_cd hn h
theorem zs_lstore {k : Nat} {x : Int64} {L' : z_Lo} (hn : Nat.blt (k + 1) L.length = true) (hl : z_s2 L k (.long x) = L') (h : z_ex lm rt hd E K is (pc + 2) z L' r S = R) : z_ex lm rt hd E K ((.lstore k, len, ops) :: is) pc z L (.long x :: r) S = R := by subst hl; exact zs_cd hn h
theorem zs_iinc {k : Nat} {n : Int} {x v : Int32} {L' : z_Lo} (h0 : z_lg L k = some (.int x)) (hv : z_cn n = v) (hn : Nat.blt k L.length = true) (hl : z_s1 L k (.int (x + v)) = L') (h : z_ex lm rt hd E K is (pc + 3) z L' st S = R) : z_ex lm rt hd E K ((.iinc k n, len, ops) :: is) pc z L st S = R := by
  show z_o_iinc _ _ _ _ _ _ _ _ = R; unfold z_o_iinc; rw [h0]; dsimp only; rw [hn, hv, hl]; exact h
theorem zs_iadd {x y : Int32} (h : z_ex lm rt hd E K is (pc + 1) z L (.int (x + y) :: r) S = R) : z_ex lm rt hd E K ((.iadd, len, ops) :: is) pc z L (.int y :: .int x :: r) S = R := h
theorem zs_isub {x y : Int32} (h : z_ex lm rt hd E K is (pc + 1) z L (.int (x - y) :: r) S = R) : z_ex lm rt hd E K ((.isub, len, ops) :: is) pc z L (.int y :: .int x :: r) S = R := h
theorem zs_imul {x y : Int32} (h : z_ex lm rt hd E K is (pc + 1) z L (.int (x * y) :: r) S = R) : z_ex lm rt hd E K ((.imul, len, ops) :: is) pc z L (.int y :: .int x :: r) S = R := h
theorem zs_iand {x y : Int32} (h : z_ex lm rt hd E K is (pc + 1) z L (.int (x &&& y) :: r) S = R) : z_ex lm rt hd E K ((.iand, len, ops) :: is) pc z L (.int y :: .int x :: r) S = R := h
theorem zs_ior {x y : Int32} (h : z_ex lm rt hd E K is (pc + 1) z L (.int (x ||| y) :: r) S = R) : z_ex lm rt hd E K ((.ior, len, ops) :: is) pc z L (.int y :: .int x :: r) S = R := h
theorem zs_ixor {x y : Int32} (h : z_ex lm rt hd E K is (pc + 1) z L (.int (x ^^^ y) :: r) S = R) : z_ex lm rt hd E K ((.ixor, len, ops) :: is) pc z L (.int y :: .int x :: r) S = R := h
theorem zs_ishl {x y : Int32} (h : z_ex lm rt hd E K is (pc + 1) z L (.int (x <<< (y &&& 31)) :: r) S = R) : z_ex lm rt hd E K ((.ishl, len, ops) :: is) pc z L (.int y :: .int x :: r) S = R := h
theorem zs_ishr {x y : Int32} (h : z_ex lm rt hd E K is (pc + 1) z L (.int (x >>> (y &&& 31)) :: r) S = R) : z_ex lm rt hd E K ((.ishr, len, ops) :: is) pc z L (.int y :: .int x :: r) S = R := h
theorem zs_iushr {x y : Int32} (h : z_ex lm rt hd E K is (pc + 1) z L (.int (x.toUInt32 >>> (y.toUInt32 &&& Int32.toUInt32 31)).toInt32 :: r) S = R) : z_ex lm rt hd E K ((.iushr, len, ops) :: is) pc z L (.int y :: .int x :: r) S = R := h
theorem zs_idivc {x y : Int32} (hy : ¬ y = 0) (h : z_ex lm rt hd E K is (pc + 1) z L (.int (x / y) :: r) S = R) : z_ex lm rt hd E K ((.idiv, len, ops) :: is) pc z L (.int y :: .int x :: r) S = R := (if_neg hy).trans h
theorem zs_iremc {x y : Int32} (hy : ¬ y = 0) (h : z_ex lm rt hd E K is (pc + 1) z L (.int (x - x / y * y) :: r) S = R) : z_ex lm rt hd E K ((.irem, len, ops) :: is) pc z L (.int y :: .int x :: r) S = R := (if_neg hy).trans h
theorem zs_idiv {x y : Int32} (h : z_ex lm rt hd E K is (pc + 1) z L (.int (x / y) :: r) S = R) : z_ex lm rt hd E K ((.idiv, len, ops) :: is) pc z L (.int y :: .int x :: r) S = if y = 0 then none else R := by subst h; rfl
theorem zs_irem {x y : Int32} (h : z_ex lm rt hd E K is (pc + 1) z L (.int (x - x / y * y) :: r) S = R) : z_ex lm rt hd E K ((.irem, len, ops) :: is) pc z L (.int y :: .int x :: r) S = if y = 0 then none else R := by subst h; rfl
theorem zs_ineg {x : Int32} (h : z_ex lm rt hd E K is (pc + 1) z L (.int (-x) :: r) S = R) : z_ex lm rt hd E K ((.ineg, len, ops) :: is) pc z L (.int x :: r) S = R := h
theorem zs_ladd {x y : Int64} (h : z_ex lm rt hd E K is (pc + 1) z L (.long (x + y) :: r) S = R) : z_ex lm rt hd E K ((.ladd, len, ops) :: is) pc z L (.long y :: .long x :: r) S = R := h
theorem zs_lsub {x y : Int64} (h : z_ex lm rt hd E K is (pc + 1) z L (.long (x - y) :: r) S = R) : z_ex lm rt hd E K ((.lsub, len, ops) :: is) pc z L (.long y :: .long x :: r) S = R := h
theorem zs_land {x y : Int64} (h : z_ex lm rt hd E K is (pc + 1) z L (.long (x &&& y) :: r) S = R) : z_ex lm rt hd E K ((.land, len, ops) :: is) pc z L (.long y :: .long x :: r) S = R := h
theorem zs_lor {x y : Int64} (h : z_ex lm rt hd E K is (pc + 1) z L (.long (x ||| y) :: r) S = R) : z_ex lm rt hd E K ((.lor, len, ops) :: is) pc z L (.long y :: .long x :: r) S = R := h
theorem zs_lshl {x : Int64} {y : Int32} (h : z_ex lm rt hd E K is (pc + 1) z L (.long (x <<< (y.toInt64 &&& 63)) :: r) S = R) : z_ex lm rt hd E K ((.lshl, len, ops) :: is) pc z L (.int y :: .long x :: r) S = R := h
theorem zs_lushr {x : Int64} {y : Int32} (h : z_ex lm rt hd E K is (pc + 1) z L (.long (x.toUInt64 >>> (y.toInt64.toUInt64 &&& Int64.toUInt64 63)).toInt64 :: r) S = R) : z_ex lm rt hd E K ((.lushr, len, ops) :: is) pc z L (.int y :: .long x :: r) S = R := h
theorem zs_lcmp {x y : Int64} (h : z_ex lm rt hd E K is (pc + 1) z L (.int (lg_cmp x y) :: r) S = R) : z_ex lm rt hd E K ((.lcmp, len, ops) :: is) pc z L (.long y :: .long x :: r) S = R := h
theorem zs_i2l {x : Int32} (h : z_ex lm rt hd E K is (pc + 1) z L (.long x.toInt64 :: r) S = R) : z_ex lm rt hd E K ((.i2l, len, ops) :: is) pc z L (.int x :: r) S = R := h
theorem zs_l2i {x : Int64} (h : z_ex lm rt hd E K is (pc + 1) z L (.int x.toInt32 :: r) S = R) : z_ex lm rt hd E K ((.l2i, len, ops) :: is) pc z L (.long x :: r) S = R := h
theorem zs_i2b {x : Int32} (h : z_ex lm rt hd E K is (pc + 1) z L (.int x.toInt8.toInt32 :: r) S = R) : z_ex lm rt hd E K ((.i2b, len, ops) :: is) pc z L (.int x :: r) S = R := h
theorem zs_dupi {x : Int32} (h : z_ex lm rt hd E K is (pc + 1) z L (.int x :: .int x :: r) S = R) : z_ex lm rt hd E K ((.dup, len, ops) :: is) pc z L (.int x :: r) S = R := h
theorem zs_dupr {x : Nat} (h : z_ex lm rt hd E K is (pc + 1) z L (.ref x :: .ref x :: r) S = R) : z_ex lm rt hd E K ((.dup, len, ops) :: is) pc z L (.ref x :: r) S = R := h
theorem zs_dup2 {x : Int32} {a : Nat} (h : z_ex lm rt hd E K is (pc + 1) z L (.int x :: .ref a :: .int x :: .ref a :: r) S = R) : z_ex lm rt hd E K ((.dup2, len, ops) :: is) pc z L (.int x :: .ref a :: r) S = R := h
/-- a field: the check is passed by, or it stays -/
theorem zs_get0 {i c k v a : Nat} {x : Int32} (hO : z_isO c a = true) (hv : S.1 a k = x) (h : z_ex lm rt hd E K is (pc + 3) z L (.int x :: r) S = R) : z_ex lm rt hd E K ((.getfield i, len, c :: k :: 0 :: v :: ops) :: is) pc z L (.ref a :: r) S = R := by subst hv; exact zs_cd hO h
theorem zs_get0c {i c k v a : Nat} {x : Int32} (hv : S.1 a k = x) (h : z_ex lm rt hd E K is (pc + 3) z L (.int x :: r) S = R) : z_ex lm rt hd E K ((.getfield i, len, c :: k :: 0 :: v :: ops) :: is) pc z L (.ref a :: r) S = cond (z_isO c a) R none := by subst hv; exact zs_cc h
theorem zs_get1 {i c k v a : Nat} {x : Int32} (hO : z_isO c a = true) (hv : S.1 a k = x) (h : z_ex lm rt hd E K is (pc + 3) z L (.ref x.toNatClampNeg :: r) S = R) : z_ex lm rt hd E K ((.getfield i, len, c :: k :: 1 :: v :: ops) :: is) pc z L (.ref a :: r) S = cond (decide (x = -1)) none R := by subst hv; subst h; exact zs_cd hO rfl
theorem zs_get2 {i c k v a b : Nat} (hO : z_isO c a = true) (hv : a + v = b) (h : z_ex lm rt hd E K is (pc + 3) z L (.ref b :: r) S = R) : z_ex lm rt hd E K ((.getfield i, len, c :: k :: 2 :: v :: ops) :: is) pc z L (.ref a :: r) S = R := by subst hv; exact zs_cd hO h
theorem zs_get2c {i c k v a b : Nat} (hv : a + v = b) (h : z_ex lm rt hd E K is (pc + 3) z L (.ref b :: r) S = R) : z_ex lm rt hd E K ((.getfield i, len, c :: k :: 2 :: v :: ops) :: is) pc z L (.ref a :: r) S = cond (z_isO c a) R none := by subst hv; exact zs_cc h
theorem zs_get3 {i c k v a : Nat} (hO : z_isO c a = true) (h : z_ex lm rt hd E K is (pc + 3) z L (.ref v :: r) S = R) : z_ex lm rt hd E K ((.getfield i, len, c :: k :: 3 :: v :: ops) :: is) pc z L (.ref a :: r) S = R := zs_cd hO h
theorem zs_get4c {i c k v a : Nat} (h : z_ex lm rt hd E K is (pc + 3) z L (.ref (a + 200) :: r) S = R) : z_ex lm rt hd E K ((.getfield i, len, c :: k :: 4 :: v :: ops) :: is) pc z L (.ref a :: r) S = cond (z_isO c a) R none := zs_cc h
theorem zs_get5c {i c k v a : Nat} (h : z_ex lm rt hd E K is (pc + 3) z L (.int (z_wv.getD (a - 1000) 0) :: r) S = R) : z_ex lm rt hd E K ((.getfield i, len, c :: k :: 5 :: v :: ops) :: is) pc z L (.ref a :: r) S = cond (z_isO c a) R none := zs_cc h
theorem zs_put {i c k t v a : Nat} {x : Int32} (hO : (z_isO c a && Nat.beq t 0 && z_nb v x) = true) {S' : z_St} (hS : (z_w1 S.1 a k x, S.2) = S') (h : z_ex lm rt hd E K is (pc + 3) z L r S' = R) : z_ex lm rt hd E K ((.putfield i, len, c :: k :: t :: v :: ops) :: is) pc z L (.int x :: .ref a :: r) S = R := by subst hS; exact zs_cd hO h
theorem zs_putb {i c k t a : Nat} {x : Int32} (hO : (z_isO c a && Nat.beq t 0) = true) {S' : z_St} (hS : (z_w1 S.1 a k x, S.2) = S') (h : z_ex lm rt hd E K is (pc + 3) z L r S' = R) : z_ex lm rt hd E K ((.putfield i, len, c :: k :: t :: 1 :: ops) :: is) pc z L (.int x :: .ref a :: r) S = cond (z_nb 1 x) R none := by
  subst hS; subst h; show cond (z_isO c a && Nat.beq t 0 && z_nb 1 x) _ none = _; rw [hO]; rfl
theorem zs_putc {i c k t v a : Nat} {x : Int32} {S' : z_St} (hS : (z_w1 S.1 a k x, S.2) = S') (h : z_ex lm rt hd E K is (pc + 3) z L r S' = R) : z_ex lm rt hd E K ((.putfield i, len, c :: k :: t :: v :: ops) :: is) pc z L (.int x :: .ref a :: r) S = cond (z_isO c a && Nat.beq t 0 && z_nb v x) R none := by subst hS; exact zs_cc h
theorem zs_putr {i c k t v a b : Nat} (hO : (z_isO c a && Nat.beq t 1 && Nat.blt b 2000) = true) {S' : z_St} (hS : (z_w1 S.1 a k (nI b), S.2) = S') (h : z_ex lm rt hd E K is (pc + 3) z L r S' = R) : z_ex lm rt hd E K ((.putfield i, len, c :: k :: t :: v :: ops) :: is) pc z L (.ref b :: .ref a :: r) S = R := by subst hS; exact zs_cd hO h
theorem zs_putrc {i c k t v a b : Nat} (hO : (z_isO c a && Nat.beq t 1) = true) {S' : z_St} (hS : (z_w1 S.1 a k (nI b), S.2) = S') (h : z_ex lm rt hd E K is (pc + 3) z L r S' = R) : z_ex lm rt hd E K ((.putfield i, len, c :: k :: t :: v :: ops) :: is) pc z L (.ref b :: .ref a :: r) S = cond (Nat.blt b 2000) R none := by
  subst hS; subst h; show cond (z_isO c a && Nat.beq t 1 && Nat.blt b 2000) _ none = _; rw [hO]; rfl
theorem zs_getstatic {i v : Nat} (h : z_ex lm rt hd E K is (pc + 3) z L (.ref v :: st) S = R) : z_ex lm rt hd E K ((.getstatic i, len, v :: ops) :: is) pc z L st S = R := h
theorem zs_ldc0 {i v : Nat} (h : z_ex lm rt hd E K is (pc + 2) z L (.int (nI v) :: st) S = R) : z_ex lm rt hd E K ((.ldc i, len, 0 :: v :: ops) :: is) pc z L st S = R := h
theorem zs_ldc1 {i v : Nat} (h : z_ex lm rt hd E K is (pc + 2) z L (.ref v :: st) S = R) : z_ex lm rt hd E K ((.ldc i, len, 1 :: v :: ops) :: is) pc z L st S = R := h
theorem zs_ldc_w0 {i v : Nat} (h : z_ex lm rt hd E K is (pc + 3) z L (.int (nI v) :: st) S = R) : z_ex lm rt hd E K ((.ldc_w i, len, 0 :: v :: ops) :: is) pc z L st S = R := h
theorem zs_ldc_w1 {i v : Nat} (h : z_ex lm rt hd E K is (pc + 3) z L (.ref v :: st) S = R) : z_ex lm rt hd E K ((.ldc_w i, len, 1 :: v :: ops) :: is) pc z L st S = R := h
theorem zs_ldc2_w {i v : Nat} (h : z_ex lm rt hd E K is (pc + 3) z L (.long (lN v) :: st) S = R) : z_ex lm rt hd E K ((.ldc2_w i, len, v :: ops) :: is) pc z L st S = R := h
/-- rows of numbers -/
theorem zs_iaS {x w v : Int32} (hl : lm = true) (hw : S.1 1301 0 = w) (hv : S.1 1300 x.toNatClampNeg = v) (h : z_ex lm rt hd E K is (pc + 1) z L (.int v :: r) S = R) : z_ex lm rt hd E K ((.iaload, len, ops) :: is) pc z L (.int x :: .ref 1300 :: r) S = cond (z_ix x w.toNatClampNeg) R none := by subst hl; subst hw; subst hv; subst h; simp only [z_ex, z_st, z_o_iaload]; rw [show (true && Nat.beq 1300 1300) = true from by decide]; rfl
theorem zs_ia {x v : Int32} {a n : Nat} (ha : (lm && Nat.beq a 1300) = false) (ht : Nat.beq (z_at a) 1 = true) (hn : z_ln a = n) (hv : S.1 a x.toNatClampNeg = v) (h : z_ex lm rt hd E K is (pc + 1) z L (.int v :: r) S = R) : z_ex lm rt hd E K ((.iaload, len, ops) :: is) pc z L (.int x :: .ref a :: r) S = cond (z_ix x n) R none := by
  subst hn; subst hv; subst h; refine zs_cf ha ?_; show cond (Nat.beq (z_at a) 1 && _) _ none = _; rw [ht]; rfl
theorem zs_iac {x v : Int32} {a : Nat} (ha : (lm && Nat.beq a 1300) = false) (hv : S.1 a x.toNatClampNeg = v) (h : z_ex lm rt hd E K is (pc + 1) z L (.int v :: r) S = R) : z_ex lm rt hd E K ((.iaload, len, ops) :: is) pc z L (.int x :: .ref a :: r) S = cond (Nat.beq (z_at a) 1 && z_ix x (z_ln a)) R none := by
  subst hv; subst h; exact zs_cf ha rfl
theorem zs_ba {x v : Int32} {a n : Nat} (ht : (Nat.beq (z_at a) 2 || Nat.beq (z_at a) 3) = true) (hn : z_ln a = n) (hv : S.1 a x.toNatClampNeg = v) (h : z_ex lm rt hd E K is (pc + 1) z L (.int v :: r) S = R) : z_ex lm rt hd E K ((.baload, len, ops) :: is) pc z L (.int x :: .ref a :: r) S = cond (z_ix x n) R none := by
  subst hn; subst hv; subst h; show cond ((Nat.beq (z_at a) 2 || Nat.beq (z_at a) 3) && _) _ none = _; rw [ht]; rfl
theorem zs_la {x : Int32} {v : Int64} {a n : Nat} (ht : Nat.beq (z_at a) 4 = true) (hn : z_ln a = n) (hv : S.2 a x.toNatClampNeg = v) (h : z_ex lm rt hd E K is (pc + 1) z L (.long v :: r) S = R) : z_ex lm rt hd E K ((.laload, len, ops) :: is) pc z L (.int x :: .ref a :: r) S = cond (z_ix x n) R none := by
  subst hn; subst hv; subst h; show cond (Nat.beq (z_at a) 4 && _) _ none = _; rw [ht]; rfl
theorem zs_aaA {x : Int32} (h : z_ex lm rt hd E K is (pc + 1) z L (.ref (1000 + x.toNatClampNeg) :: r) S = R) : z_ex lm rt hd E K ((.aaload, len, ops) :: is) pc z L (.int x :: .ref 1100 :: r) S = cond (z_ix x 17) R none := by subst h; simp only [z_ex, z_st, z_o_aaload]; rw [show Nat.beq 1100 1100 = true from by decide]; rfl
theorem zs_aa {x : Int32} {a n : Nat} (ha : Nat.beq a 1100 = false) (ht : Nat.beq (z_at a) 5 = true) (hn : z_ln a = n) (h : z_ex lm rt hd E K is (pc + 1) z L (.ref (z_vs.getD x.toNatClampNeg 0) :: r) S = R) : z_ex lm rt hd E K ((.aaload, len, ops) :: is) pc z L (.int x :: .ref a :: r) S = cond (z_ix x n) R none := by
  subst hn; subst h; refine zs_cf ha ?_; show cond (Nat.beq (z_at a) 5 && _) _ none = _; rw [ht]; rfl
theorem zs_ias {x v : Int32} {a n : Nat} (ht : Nat.beq (z_at a) 1 = true) (hn : z_ln a = n) {S' : z_St} (hS : (z_w1 S.1 a x.toNatClampNeg v, S.2) = S') (h : z_ex lm rt hd E K is (pc + 1) z L r S' = R) : z_ex lm rt hd E K ((.iastore, len, ops) :: is) pc z L (.int v :: .int x :: .ref a :: r) S = cond (z_ix x n) R none := by
  subst hS; subst hn; subst h; show cond (Nat.beq (z_at a) 1 && _) _ none = _; rw [ht]; rfl
theorem zs_iasc {x v : Int32} {a : Nat} {S' : z_St} (hS : (z_w1 S.1 a x.toNatClampNeg v, S.2) = S') (h : z_ex lm rt hd E K is (pc + 1) z L r S' = R) : z_ex lm rt hd E K ((.iastore, len, ops) :: is) pc z L (.int v :: .int x :: .ref a :: r) S = cond (Nat.beq (z_at a) 1 && z_ix x (z_ln a)) R none := by subst hS; exact zs_cc h
theorem zs_bas2 {x v : Int32} {a n : Nat} (ht : z_at a = 2) (hn : z_ln a = n) {S' : z_St} (hS : (z_w1 S.1 a x.toNatClampNeg (vp_nar .byte v), S.2) = S') (h : z_ex lm rt hd E K is (pc + 1) z L r S' = R) : z_ex lm rt hd E K ((.bastore, len, ops) :: is) pc z L (.int v :: .int x :: .ref a :: r) S = cond (z_ix x n) R none := by
  subst hS; subst hn; subst h; simp only [z_ex, z_st, z_o_bastore, ht]
theorem zs_bas3 {x v : Int32} {a n : Nat} (ht : z_at a = 3) (hn : z_ln a = n) {S' : z_St} (hS : (z_w1 S.1 a x.toNatClampNeg (vp_nar .boolean v), S.2) = S') (h : z_ex lm rt hd E K is (pc + 1) z L r S' = R) : z_ex lm rt hd E K ((.bastore, len, ops) :: is) pc z L (.int v :: .int x :: .ref a :: r) S = cond (z_ix x n) R none := by
  subst hS; subst hn; subst h; simp only [z_ex, z_st, z_o_bastore, ht]
theorem zs_las {x : Int32} {v : Int64} {a n : Nat} (ht : Nat.beq (z_at a) 4 = true) (hn : z_ln a = n) {S' : z_St} (hS : (S.1, z_w2 S.2 a x.toNatClampNeg v) = S') (h : z_ex lm rt hd E K is (pc + 1) z L r S' = R) : z_ex lm rt hd E K ((.lastore, len, ops) :: is) pc z L (.long v :: .int x :: .ref a :: r) S = cond (z_ix x n) R none := by
  subst hS; subst hn; subst h; show cond (Nat.beq (z_at a) 4 && _) _ none = _; rw [ht]; rfl
theorem zs_lasc {x : Int32} {v : Int64} {a : Nat} {S' : z_St} (hS : (S.1, z_w2 S.2 a x.toNatClampNeg v) = S') (h : z_ex lm rt hd E K is (pc + 1) z L r S' = R) : z_ex lm rt hd E K ((.lastore, len, ops) :: is) pc z L (.long v :: .int x :: .ref a :: r) S = cond (Nat.beq (z_at a) 4 && z_ix x (z_ln a)) R none := by subst hS; exact zs_cc h
/-- an index that is plain: the check goes -/
theorem zs_x {x : Int32} {n : Nat} {T : z_Res} (h : T = cond (z_ix x n) R none) (hx : z_ix x n = true) : T = R := by rw [h, hx]; rfl
theorem zs_alS {w : Int32} (hl : lm = true) (hw : S.1 1301 0 = w) (h : z_ex lm rt hd E K is (pc + 1) z L (.int w :: r) S = R) : z_ex lm rt hd E K ((.arraylength, len, ops) :: is) pc z L (.ref 1300 :: r) S = R := by subst hl; subst hw; exact h
theorem zs_alA (hl : lm = false) (h : z_ex lm rt hd E K is (pc + 1) z L (.int (nI 17) :: r) S = R) : z_ex lm rt hd E K ((.arraylength, len, ops) :: is) pc z L (.ref 1100 :: r) S = R := by subst hl; exact h
theorem zs_al {a n : Nat} (hl : lm = false) (h1 : Nat.beq a 1100 = false) (h2 : Nat.blt 0 (z_at a) = true) (hn : z_ln a = n) (h : z_ex lm rt hd E K is (pc + 1) z L (.int (nI n) :: r) S = R) : z_ex lm rt hd E K ((.arraylength, len, ops) :: is) pc z L (.ref a :: r) S = R := by
  subst hl; subst hn; exact zs_cf h1 (zs_cd h2 h)
theorem zs_alc {a : Nat} (hl : lm = false) (h1 : z_ex lm rt hd E K is (pc + 1) z L (.int (nI 17) :: r) S = A) (h : z_ex lm rt hd E K is (pc + 1) z L (.int (nI (z_ln a)) :: r) S = R) : z_ex lm rt hd E K ((.arraylength, len, ops) :: is) pc z L (.ref a :: r) S = cond (Nat.beq a 1100) A (cond (Nat.blt 0 (z_at a)) R none) := by
  subst hl; subst h1; subst h; rfl
/-- branches -/
theorem zs_if_eq {x : Int32} {o : Int} (h1 : K (z_tg pc o) z L r S = A) (h2 : z_ex lm rt hd E K is (pc + 3) z L r S = B) : z_ex lm rt hd E K ((.ifCond .eq o, len, ops) :: is) pc z L (.int x :: r) S = if x = 0 then A else B := by subst h1; subst h2; rfl
theorem zs_if_ne {x : Int32} {o : Int} (h1 : K (z_tg pc o) z L r S = A) (h2 : z_ex lm rt hd E K is (pc + 3) z L r S = B) : z_ex lm rt hd E K ((.ifCond .ne o, len, ops) :: is) pc z L (.int x :: r) S = if x = 0 then B else A := by subst h1; subst h2; rfl
theorem zs_if_lt {x : Int32} {o : Int} (h1 : K (z_tg pc o) z L r S = A) (h2 : z_ex lm rt hd E K is (pc + 3) z L r S = B) : z_ex lm rt hd E K ((.ifCond .lt o, len, ops) :: is) pc z L (.int x :: r) S = if x < 0 then A else B := by subst h1; subst h2; rfl
theorem zs_if_ge {x : Int32} {o : Int} (h1 : K (z_tg pc o) z L r S = A) (h2 : z_ex lm rt hd E K is (pc + 3) z L r S = B) : z_ex lm rt hd E K ((.ifCond .ge o, len, ops) :: is) pc z L (.int x :: r) S = if 0 ≤ x then A else B := by subst h1; subst h2; rfl
theorem zs_if_gt {x : Int32} {o : Int} (h1 : K (z_tg pc o) z L r S = A) (h2 : z_ex lm rt hd E K is (pc + 3) z L r S = B) : z_ex lm rt hd E K ((.ifCond .gt o, len, ops) :: is) pc z L (.int x :: r) S = if 0 < x then A else B := by subst h1; subst h2; rfl
theorem zs_if_le {x : Int32} {o : Int} (h1 : K (z_tg pc o) z L r S = A) (h2 : z_ex lm rt hd E K is (pc + 3) z L r S = B) : z_ex lm rt hd E K ((.ifCond .le o, len, ops) :: is) pc z L (.int x :: r) S = if x ≤ 0 then A else B := by subst h1; subst h2; rfl
theorem zs_ic_eq {x y : Int32} {o : Int} (h1 : K (z_tg pc o) z L r S = A) (h2 : z_ex lm rt hd E K is (pc + 3) z L r S = B) : z_ex lm rt hd E K ((.if_icmp .eq o, len, ops) :: is) pc z L (.int y :: .int x :: r) S = if x = y then A else B := by subst h1; subst h2; rfl
theorem zs_ic_ne {x y : Int32} {o : Int} (h1 : K (z_tg pc o) z L r S = A) (h2 : z_ex lm rt hd E K is (pc + 3) z L r S = B) : z_ex lm rt hd E K ((.if_icmp .ne o, len, ops) :: is) pc z L (.int y :: .int x :: r) S = if x = y then B else A := by subst h1; subst h2; rfl
theorem zs_ic_lt {x y : Int32} {o : Int} (h1 : K (z_tg pc o) z L r S = A) (h2 : z_ex lm rt hd E K is (pc + 3) z L r S = B) : z_ex lm rt hd E K ((.if_icmp .lt o, len, ops) :: is) pc z L (.int y :: .int x :: r) S = if x < y then A else B := by subst h1; subst h2; rfl
theorem zs_ic_ge {x y : Int32} {o : Int} (h1 : K (z_tg pc o) z L r S = A) (h2 : z_ex lm rt hd E K is (pc + 3) z L r S = B) : z_ex lm rt hd E K ((.if_icmp .ge o, len, ops) :: is) pc z L (.int y :: .int x :: r) S = if y ≤ x then A else B := by subst h1; subst h2; rfl
theorem zs_ic_gt {x y : Int32} {o : Int} (h1 : K (z_tg pc o) z L r S = A) (h2 : z_ex lm rt hd E K is (pc + 3) z L r S = B) : z_ex lm rt hd E K ((.if_icmp .gt o, len, ops) :: is) pc z L (.int y :: .int x :: r) S = if y < x then A else B := by subst h1; subst h2; rfl
theorem zs_ic_le {x y : Int32} {o : Int} (h1 : K (z_tg pc o) z L r S = A) (h2 : z_ex lm rt hd E K is (pc + 3) z L r S = B) : z_ex lm rt hd E K ((.if_icmp .le o, len, ops) :: is) pc z L (.int y :: .int x :: r) S = if x ≤ y then A else B := by subst h1; subst h2; rfl
theorem zs_ac_eq {x y : Nat} {o : Int} (h1 : K (z_tg pc o) z L r S = A) (h2 : z_ex lm rt hd E K is (pc + 3) z L r S = B) : z_ex lm rt hd E K ((.if_acmp .eq o, len, ops) :: is) pc z L (.ref y :: .ref x :: r) S = cond (Nat.ble 1000 x && Nat.blt x 1017 && Nat.ble 1000 y && Nat.blt y 1017) (if x = y then A else B) none := by subst h1; subst h2; rfl
theorem zs_ac_ne {x y : Nat} {o : Int} (h1 : K (z_tg pc o) z L r S = A) (h2 : z_ex lm rt hd E K is (pc + 3) z L r S = B) : z_ex lm rt hd E K ((.if_acmp .ne o, len, ops) :: is) pc z L (.ref y :: .ref x :: r) S = cond (Nat.ble 1000 x && Nat.blt x 1017 && Nat.ble 1000 y && Nat.blt y 1017) (if x = y then B else A) none := by subst h1; subst h2; rfl
theorem zs_goto {o : Int} (h : K (z_tg pc o) z L st S = R) : z_ex lm rt hd E K ((.goto o, len, ops) :: is) pc z L st S = R := h
theorem zs_tsw {x : Int32} {d lo hi : Int} {offs : Array Int} {k : Int → z_Res} (h : ∀ o, K (z_tg pc o) z L r S = k o) : z_ex lm rt hd E K ((.tableswitch d lo hi offs, len, ops) :: is) pc z L (.int x :: r) S = z_sw x d lo hi offs k := by
  have : k = fun o => K (z_tg pc o) z L r S := funext fun o => (h o).symm
  subst this; rfl
theorem zs_lsw {x : Int32} {d : Int} {ps : Array (Int × Int)} (h : K (z_tg pc (Op.lookupswitch.offset ps.toList d x.toInt)) z L r S = R) : z_ex lm rt hd E K ((.lookupswitch d ps, len, ops) :: is) pc z L (.int x :: r) S = R := h
/-- ends -/
theorem zs_iret {x : Int32} (hb : z_rb rt x = true) : z_ex lm rt hd E K ((.ireturn, len, ops) :: is) pc z L [.int x] S = some (.inl (some (.int x)), S) := zs_cd hb rfl
theorem zs_iretc {x : Int32} : z_ex lm rt hd E K ((.ireturn, len, ops) :: is) pc z L [.int x] S = cond (z_rb rt x) (some (.inl (some (.int x)), S)) none := rfl
theorem zs_aret {x : Nat} (hl : lm = false) : z_ex lm rt hd E K ((.areturn, len, ops) :: is) pc z L [.ref x] S = some (.inl (some (.ref x)), S) := by subst hl; rfl
theorem zs_ret (hl : lm = false) : z_ex lm rt hd E K ((.return_, len, ops) :: is) pc z L [] S = some (.inl none, S) := by subst hl; rfl
theorem zs_thr {e : Nat} (hl : lm = false) : z_ex lm rt hd E K ((.athrow, len, e :: ops) :: is) pc z L [] S = some (.inr e, S) := by subst hl; rfl
/-- calls -/
theorem zs_pre {m n kind rc t : Nat} {o : List Nat} {as : List Value} {go : z_K} (hp : z_pop n [] st = some (as, r)) (hc : Nat.ble (z_cs r) 8 = true) {T : z_Res}
    (h : z_call lm hd E go (m :: n :: kind :: rc :: t :: o) pc z L st S = T) : z_call lm hd E go (m :: n :: kind :: rc :: t :: o) pc z L st S = T := h
theorem zs_cvi {i m n kind rc : Nat} {o : List Nat} {as : List Value} {f : z_St → z_Res} {g : Nat → z_St → z_Res} {go : z_K} (hp : z_pop n [] st = some (as, r)) (hc : Nat.ble (z_cs r) 8 = true)
    (hk : (kind = 0 ∨ kind = 1) ∨ ((kind = 2 ∨ kind = 3) ∧ ∃ a q, as = .ref a :: q ∧ z_isO rc a = true)) (h : ∀ S1, go (pc + 3) z L r S1 = f S1) (hg : ∀ e S1, cond lm none (z_hnd hd e S1) = g e S1) :
    z_call lm hd E go (m :: n :: kind :: rc :: 0 :: o) pc z L st S = z_clv (E m as S) f g := by
  have e1 : f = fun S1 => go (pc + 3) z L r S1 := funext fun S1 => (h S1).symm
  have e2 : g = fun e S1 => cond lm none (z_hnd hd e S1) := funext fun e => funext fun S1 => (hg e S1).symm
  subst e1; subst e2
  unfold z_call
  simp only [hp, hc, cond_true]
  rcases hk with (rfl | rfl) | ⟨rfl | rfl, a, q, rfl, hO⟩ <;> simp_all
theorem zs_cii {i m n kind rc : Nat} {o : List Nat} {as : List Value} {f : Int32 → z_St → z_Res} {g : Nat → z_St → z_Res} {go : z_K} (hp : z_pop n [] st = some (as, r)) (hc : Nat.ble (z_cs r) 8 = true)
    (hk : (kind = 0 ∨ kind = 1) ∨ ((kind = 2 ∨ kind = 3) ∧ ∃ a q, as = .ref a :: q ∧ z_isO rc a = true)) (h : ∀ x S1, go (pc + 3) z L (.int x :: r) S1 = f x S1) (hg : ∀ e S1, cond lm none (z_hnd hd e S1) = g e S1) :
    z_call lm hd E go (m :: n :: kind :: rc :: 1 :: o) pc z L st S = z_cli (E m as S) f g := by
  have e1 : f = fun x S1 => go (pc + 3) z L (.int x :: r) S1 := funext fun x => funext fun S1 => (h x S1).symm
  have e2 : g = fun e S1 => cond lm none (z_hnd hd e S1) := funext fun e => funext fun S1 => (hg e S1).symm
  subst e1; subst e2
  unfold z_call
  simp only [hp, hc, cond_true]
  rcases hk with (rfl | rfl) | ⟨rfl | rfl, a, q, rfl, hO⟩ <;> simp_all
theorem zs_cri {i m n kind rc : Nat} {o : List Nat} {as : List Value} {f : Nat → z_St → z_Res} {g : Nat → z_St → z_Res} {go : z_K} (hp : z_pop n [] st = some (as, r)) (hc : Nat.ble (z_cs r) 8 = true)
    (hk : (kind = 0 ∨ kind = 1) ∨ ((kind = 2 ∨ kind = 3) ∧ ∃ a q, as = .ref a :: q ∧ z_isO rc a = true)) (h : ∀ x S1, go (pc + 3) z L (.ref x :: r) S1 = f x S1) (hg : ∀ e S1, cond lm none (z_hnd hd e S1) = g e S1) :
    z_call lm hd E go (m :: n :: kind :: rc :: 3 :: o) pc z L st S = z_clr (E m as S) f g := by
  have e1 : f = fun x S1 => go (pc + 3) z L (.ref x :: r) S1 := funext fun x => funext fun S1 => (h x S1).symm
  have e2 : g = fun e S1 => cond lm none (z_hnd hd e S1) := funext fun e => funext fun S1 => (hg e S1).symm
  subst e1; subst e2
  unfold z_call
  simp only [hp, hc, cond_true]
  rcases hk with (rfl | rfl) | ⟨rfl | rfl, a, q, rfl, hO⟩ <;> simp_all
theorem zs_Vv {i m n kind rc : Nat} {o : List Nat} {as : List Value} {f : z_St → z_Res} {g : Nat → z_St → z_Res} (hp : z_pop n [] st = some (as, r)) (hc : Nat.ble (z_cs r) 8 = true) (hk : (kind = 0 ∨ kind = 1) ∨ ((kind = 2 ∨ kind = 3) ∧ ∃ a q, as = .ref a :: q ∧ z_isO rc a = true)) (h : ∀ S1, z_ex lm rt hd E K is (pc + 3) z L r S1 = f S1) (hg : ∀ e S1, cond lm none (z_hnd hd e S1) = g e S1) : z_ex lm rt hd E K ((.invokevirtual i, len, m :: n :: kind :: rc :: 0 :: o) :: is) pc z L st S = z_clv (E m as S) f g := zs_cvi (i := i) (o := o) (go := z_ex lm rt hd E K is) hp hc hk h hg
theorem zs_Vi {i m n kind rc : Nat} {o : List Nat} {as : List Value} {f : Int32 → z_St → z_Res} {g : Nat → z_St → z_Res} (hp : z_pop n [] st = some (as, r)) (hc : Nat.ble (z_cs r) 8 = true) (hk : (kind = 0 ∨ kind = 1) ∨ ((kind = 2 ∨ kind = 3) ∧ ∃ a q, as = .ref a :: q ∧ z_isO rc a = true)) (h : ∀ x S1, z_ex lm rt hd E K is (pc + 3) z L (.int x :: r) S1 = f x S1) (hg : ∀ e S1, cond lm none (z_hnd hd e S1) = g e S1) : z_ex lm rt hd E K ((.invokevirtual i, len, m :: n :: kind :: rc :: 1 :: o) :: is) pc z L st S = z_cli (E m as S) f g := zs_cii (i := i) (o := o) (go := z_ex lm rt hd E K is) hp hc hk h hg
theorem zs_Sv {i m n kind rc : Nat} {o : List Nat} {as : List Value} {f : z_St → z_Res} {g : Nat → z_St → z_Res} (hp : z_pop n [] st = some (as, r)) (hc : Nat.ble (z_cs r) 8 = true) (hk : (kind = 0 ∨ kind = 1) ∨ ((kind = 2 ∨ kind = 3) ∧ ∃ a q, as = .ref a :: q ∧ z_isO rc a = true)) (h : ∀ S1, z_ex lm rt hd E K is (pc + 3) z L r S1 = f S1) (hg : ∀ e S1, cond lm none (z_hnd hd e S1) = g e S1) : z_ex lm rt hd E K ((.invokestatic i, len, m :: n :: kind :: rc :: 0 :: o) :: is) pc z L st S = z_clv (E m as S) f g := zs_cvi (i := i) (o := o) (go := z_ex lm rt hd E K is) hp hc hk h hg
theorem zs_Si {i m n kind rc : Nat} {o : List Nat} {as : List Value} {f : Int32 → z_St → z_Res} {g : Nat → z_St → z_Res} (hp : z_pop n [] st = some (as, r)) (hc : Nat.ble (z_cs r) 8 = true) (hk : (kind = 0 ∨ kind = 1) ∨ ((kind = 2 ∨ kind = 3) ∧ ∃ a q, as = .ref a :: q ∧ z_isO rc a = true)) (h : ∀ x S1, z_ex lm rt hd E K is (pc + 3) z L (.int x :: r) S1 = f x S1) (hg : ∀ e S1, cond lm none (z_hnd hd e S1) = g e S1) : z_ex lm rt hd E K ((.invokestatic i, len, m :: n :: kind :: rc :: 1 :: o) :: is) pc z L st S = z_cli (E m as S) f g := zs_cii (i := i) (o := o) (go := z_ex lm rt hd E K is) hp hc hk h hg
theorem zs_Sr {i m n kind rc : Nat} {o : List Nat} {as : List Value} {f : Nat → z_St → z_Res} {g : Nat → z_St → z_Res} (hp : z_pop n [] st = some (as, r)) (hc : Nat.ble (z_cs r) 8 = true) (hk : (kind = 0 ∨ kind = 1) ∨ ((kind = 2 ∨ kind = 3) ∧ ∃ a q, as = .ref a :: q ∧ z_isO rc a = true)) (h : ∀ x S1, z_ex lm rt hd E K is (pc + 3) z L (.ref x :: r) S1 = f x S1) (hg : ∀ e S1, cond lm none (z_hnd hd e S1) = g e S1) : z_ex lm rt hd E K ((.invokestatic i, len, m :: n :: kind :: rc :: 3 :: o) :: is) pc z L st S = z_clr (E m as S) f g := zs_cri (i := i) (o := o) (go := z_ex lm rt hd E K is) hp hc hk h hg
/-- a call on a thing that isn't known to be of its kind -/
theorem zs_Vvc {i m n kind rc a : Nat} {o : List Nat} {as : List Value} {f : z_St → z_Res} {g : Nat → z_St → z_Res} (hp : z_pop n [] st = some (.ref a :: as, r)) (hc : Nat.ble (z_cs r) 8 = true) (hk : kind = 2 ∨ kind = 3) (h : ∀ S1, z_ex lm rt hd E K is (pc + 3) z L r S1 = f S1) (hg : ∀ e S1, cond lm none (z_hnd hd e S1) = g e S1) : z_ex lm rt hd E K ((.invokevirtual i, len, m :: n :: kind :: rc :: 0 :: o) :: is) pc z L st S = cond (z_isO rc a) (z_clv (E m (.ref a :: as) S) f g) none := by
  cases hO : z_isO rc a with
  | true => exact zs_Vv hp hc (Or.inr ⟨hk, a, as, rfl, hO⟩) h hg
  | false => 
    rcases hk with rfl | rfl <;> simp only [z_ex, z_st, z_o_invokevirtual, z_call, hp, hc, cond_true, cond_false, hO]
theorem zs_Vic {i m n kind rc a : Nat} {o : List Nat} {as : List Value} {f : Int32 → z_St → z_Res} {g : Nat → z_St → z_Res} (hp : z_pop n [] st = some (.ref a :: as, r)) (hc : Nat.ble (z_cs r) 8 = true) (hk : kind = 2 ∨ kind = 3) (h : ∀ x S1, z_ex lm rt hd E K is (pc + 3) z L (.int x :: r) S1 = f x S1) (hg : ∀ e S1, cond lm none (z_hnd hd e S1) = g e S1) : z_ex lm rt hd E K ((.invokevirtual i, len, m :: n :: kind :: rc :: 1 :: o) :: is) pc z L st S = cond (z_isO rc a) (z_cli (E m (.ref a :: as) S) f g) none := by
  cases hO : z_isO rc a with
  | true => exact zs_Vi hp hc (Or.inr ⟨hk, a, as, rfl, hO⟩) h hg
  | false => 
    rcases hk with rfl | rfl <;> simp only [z_ex, z_st, z_o_invokevirtual, z_call, hp, hc, cond_true, cond_false, hO]
theorem zs_S4 {i m n rc t : Nat} {o : List Nat} {as : List Value} {f : Int32 → z_St → z_Res} (hl : lm = true) (hp : z_pop n [] st = some (as, r)) (hc : Nat.ble (z_cs r) 8 = true) (h : ∀ x S1, z_ex lm rt hd E K is (pc + 3) (z + 1) L (.int x :: r) S1 = f x S1) : z_ex lm rt hd E K ((.invokestatic i, len, m :: n :: 4 :: rc :: t :: o) :: is) pc z L st S = cond (Nat.blt z 100000) (z_cli (E m as S) f (fun _ _ => none)) none := by
  have e1 : f = fun x S1 => z_ex lm rt hd E K is (pc + 3) (z + 1) L (.int x :: r) S1 := funext fun x => funext fun S1 => (h x S1).symm
  subst e1; subst hl
  simp only [z_ex, z_st, z_o_invokestatic, z_call, hp, hc, cond_true, Bool.true_and]
theorem zs_cp1 {i m n rc t : Nat} {o : List Nat} {a b : Nat} {x y k : Int32} {S' : z_St} (hp : z_pop n [] st = some ([.ref a, .int x, .ref b, .int y, .int k], r)) (hc : Nat.ble (z_cs r) 8 = true) (ht : z_at a = 1) (hS : (z_c1 S.1 a b x.toNatClampNeg y.toNatClampNeg k.toNatClampNeg, S.2) = S') (h : z_ex lm rt hd E K is (pc + 3) z L r S' = R) : z_ex lm rt hd E K ((.invokestatic i, len, m :: n :: 6 :: rc :: t :: o) :: is) pc z L st S = cond (Nat.beq (z_at a) (z_at b) && !(Nat.beq a b) && !(decide (x < 0)) && !(decide (y < 0)) && !(decide (k < 0)) && decide (x.toNatClampNeg + k.toNatClampNeg ≤ z_ln a) && decide (y.toNatClampNeg + k.toNatClampNeg ≤ z_ln b)) R none := by
  subst hS; subst h
  simp only [z_ex, z_st, z_o_invokestatic, z_call, hp, hc, cond_true, ht]
theorem zs_cp2 {i m n rc t : Nat} {o : List Nat} {a b : Nat} {x y k : Int32} {S' : z_St} (hp : z_pop n [] st = some ([.ref a, .int x, .ref b, .int y, .int k], r)) (hc : Nat.ble (z_cs r) 8 = true) (ht : z_at a = 4) (hS : (S.1, z_c2 S.2 a b x.toNatClampNeg y.toNatClampNeg k.toNatClampNeg) = S') (h : z_ex lm rt hd E K is (pc + 3) z L r S' = R) : z_ex lm rt hd E K ((.invokestatic i, len, m :: n :: 6 :: rc :: t :: o) :: is) pc z L st S = cond (Nat.beq (z_at a) (z_at b) && !(Nat.beq a b) && !(decide (x < 0)) && !(decide (y < 0)) && !(decide (k < 0)) && decide (x.toNatClampNeg + k.toNatClampNeg ≤ z_ln a) && decide (y.toNatClampNeg + k.toNatClampNeg ≤ z_ln b)) R none := by
  subst hS; subst h
  simp only [z_ex, z_st, z_o_invokestatic, z_call, hp, hc, cond_true, ht]
theorem zs_slen {i m n rc t : Nat} {o : List Nat} {a : Nat} (hp : z_pop n [] st = some ([.ref a], r)) (hc : Nat.ble (z_cs r) 8 = true) (h : z_ex lm rt hd E K is (pc + 3) z L (.int (nI ((z_tx.getD (a - 1200) []).length)) :: r) S = R) : z_ex lm rt hd E K ((.invokevirtual i, len, m :: n :: 7 :: rc :: t :: o) :: is) pc z L st S = cond (Nat.ble 1200 a && Nat.blt a 1217) R none := by
  subst h
  simp only [z_ex, z_st, z_o_invokevirtual, z_call, hp, hc, cond_true]
theorem zs_schr {i m n rc t : Nat} {o : List Nat} {a : Nat} {x : Int32} (hp : z_pop n [] st = some ([.ref a, .int x], r)) (hc : Nat.ble (z_cs r) 8 = true) (h : z_ex lm rt hd E K is (pc + 3) z L (.int ((z_tx.getD (a - 1200) []).getD x.toNatClampNeg 0) :: r) S = R) : z_ex lm rt hd E K ((.invokevirtual i, len, m :: n :: 8 :: rc :: t :: o) :: is) pc z L st S = cond (Nat.ble 1200 a && Nat.blt a 1217 && z_ix x (z_tx.getD (a - 1200) []).length) R none := by
  subst h
  simp only [z_ex, z_st, z_o_invokevirtual, z_call, hp, hc, cond_true]
end ZS
theorem zs_run {lm : Bool} {rt : Option FieldType} {hd : List (Nat × Int32)} {E : z_Ev} {B : z_B} {n pc z : Nat} {L L' : z_Lo} {st : List Value} {S : z_St} {R : z_Res} {msk : List Bool} {is : List z_I} (hf : z_fnd B pc = some (msk, is)) (hm : z_mk msk L = L') (h : z_ex lm rt hd E (z_run lm rt hd E B n) is pc z L' st S = R) : z_run lm rt hd E B (n + 1) pc z L st S = R := by
  subst hm
  show (match z_fnd B pc with | some q => z_ex lm rt hd E (z_run lm rt hd E B n) q.2 pc z (z_mk q.1 L) st S | none => none) = R
  rw [hf]; exact h
theorem z_ixn {j n : Nat} (h : Nat.blt j n = true) (h2 : Nat.ble n 1000000 = true) : z_ix (nI j) n = true := by
  have h3 : j < n := Nat.blt_eq.mp h
  have h4 : n ≤ 1000000 := Nat.le_of_ble_eq_true h2
  have h5 : j < 2 ^ 31 := by omega
  simp [z_ix, nI_clamp h5, h3, nI_pos h5]
