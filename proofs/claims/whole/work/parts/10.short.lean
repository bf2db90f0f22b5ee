/-! short names of the forms, and of their meanings -/
def x_ic {S : am_S} (n : Int) (v : Int32) (h : Int32.ofInt n = v) : am_XP S := x_n _ _ (ik_iconst n v h)
def x_bp {S : am_S} (n : Int) (v : Int32) (h : (Int8.ofInt n).toInt32 = v) : am_XP S := x_n _ _ (ik_bipush n v h)
def x_sp {S : am_S} (n : Int) (v : Int32) (h : (Int16.ofInt n).toInt32 = v) : am_XP S := x_n _ _ (ik_sipush n v h)
def x_lc {S : am_S} (n : Fin 2) (v : Int64) (h : Int64.ofNat (n : Nat) = v) : am_XP S := x_n _ _ (ik_lconst n v h)
def x_ldc {S : am_S} (i : Nat) (v : Int32) (q : Nat) : am_XP S := x_n _ _ (ik_ldc i v q)
def x_ldcw {S : am_S} (i : Nat) (v : Int32) (q : Nat) : am_XP S := x_n _ _ (ik_ldcw i v q)
def x_ldc2 {S : am_S} (i : Nat) (v : Int64) (q : Nat) : am_XP S := x_n _ _ (ik_ldc2 i v q)
def x_iln {S : am_S} (n : Fin 4) : am_XP S := x_n _ _ (ik_iload_n n)
def x_il {S : am_S} (n : Nat) : am_XP S := x_n _ _ (ik_iload n)
def x_lln {S : am_S} (n : Fin 4) : am_XP S := x_n _ _ (ik_lload_n n)
def x_ll {S : am_S} (n : Nat) : am_XP S := x_n _ _ (ik_lload n)
def x_aln {S : am_S} (n : Fin 4) : am_XP S := x_n _ _ (ik_aload_n n)
def x_al {S : am_S} (n : Nat) : am_XP S := x_n _ _ (ik_aload n)
/-- what getfield needs of the tables -/
def am_KG (ci j : Nat) : Prop := vwCl[ci]? = some (am_cn ci) ∧ j < (am_cn ci).2.2
def x_gf {S : am_S} (idx ci j q : Nat) (h : am_KG ci j) (a : am_XP S) : am_XP S := x_u _ _ (iu_get idx ci j q h.1 h.2) a
def x_ald {S : am_S} (a b : am_XP S) : am_XP S := x_b _ _ ib_iaload a b
def x_qld {S : am_S} (a b : am_XP S) : am_XP S := x_b _ _ ib_aaload a b
def x_len {S : am_S} (a : am_XP S) : am_XP S := x_u _ _ iu_alen a
def x_neg {S : am_S} (a : am_XP S) : am_XP S := x_u _ _ iu_ineg a
def x_i2l {S : am_S} (a : am_XP S) : am_XP S := x_u _ _ iu_i2l a
def x_i2b {S : am_S} (a : am_XP S) : am_XP S := x_u _ _ iu_i2b a
def x_i2s {S : am_S} (a : am_XP S) : am_XP S := x_u _ _ iu_i2s a
def x_iadd {S : am_S} (a b : am_XP S) : am_XP S := x_b _ _ ib_iadd a b
def x_isub {S : am_S} (a b : am_XP S) : am_XP S := x_b _ _ ib_isub a b
def x_imul {S : am_S} (a b : am_XP S) : am_XP S := x_b _ _ ib_imul a b
def x_iand {S : am_S} (a b : am_XP S) : am_XP S := x_b _ _ ib_iand a b
def x_ior {S : am_S} (a b : am_XP S) : am_XP S := x_b _ _ ib_ior a b
def x_ishl {S : am_S} (a b : am_XP S) : am_XP S := x_b _ _ ib_ishl a b
def x_ishr {S : am_S} (a b : am_XP S) : am_XP S := x_b _ _ ib_ishr a b
def x_iushr {S : am_S} (a b : am_XP S) : am_XP S := x_b _ _ ib_iushr a b
def x_idiv {S : am_S} (a b : am_XP S) : am_XP S := x_b _ _ ib_idiv a b
def x_irem {S : am_S} (a b : am_XP S) : am_XP S := x_b _ _ ib_irem a b
def x_ladd {S : am_S} (a b : am_XP S) : am_XP S := x_b _ _ ib_ladd a b
def x_lsub {S : am_S} (a b : am_XP S) : am_XP S := x_b _ _ ib_lsub a b
def x_lmul {S : am_S} (a b : am_XP S) : am_XP S := x_b _ _ ib_lmul a b
def x_ldiv {S : am_S} (a b : am_XP S) : am_XP S := x_b _ _ ib_ldiv a b
def x_lrem {S : am_S} (a b : am_XP S) : am_XP S := x_b _ _ ib_lrem a b
def x_lshl {S : am_S} (a b : am_XP S) : am_XP S := x_b _ _ ib_lshl a b
def x_lcmp {S : am_S} (a b : am_XP S) : am_XP S := x_b _ _ ib_lcmp a b
def t_isn {S : am_S} (n : Fin 4) (a : am_XP S) : am_SP S := t_as _ _ (it_istore_n n) a
def t_is {S : am_S} (n : Nat) (a : am_XP S) : am_SP S := t_as _ _ (it_istore n) a
def t_asn {S : am_S} (n : Fin 4) (a : am_XP S) : am_SP S := t_as _ _ (it_astore_n n) a
def t_ast {S : am_S} (n : Nat) (a : am_XP S) : am_SP S := t_as _ _ (it_astore n) a
def t_lsn {S : am_S} (n : Fin 4) (a : am_XP S) : am_SP S := t_as _ _ (it_lstore_n n) a
def t_ls {S : am_S} (n : Nat) (a : am_XP S) : am_SP S := t_as _ _ (it_lstore n) a
abbrev e_i (v : Int32) : am_X := e_n (o_k (vI v))
abbrev e_j (v : Int64) : am_X := e_n (o_k (vL v))
abbrev e_li (i : Nat) : am_X := e_n (o_li i)
abbrev e_ll (i : Nat) : am_X := e_n (o_ll i)
abbrev e_lr (i : Nat) : am_X := e_n (o_lr i)
abbrev e_gf (Sh : List am_SC) (ci j : Nat) (a : am_X) : am_X := e_u (am_gv Sh ci j) a
abbrev e_ald (Sh : List am_SC) (a b : am_X) : am_X := e_b (am_lv Sh) a b
abbrev e_qld (Sh : List am_SC) (a b : am_X) : am_X := e_b (am_qv Sh) a b
abbrev e_len (Sh : List am_SC) (a : am_X) : am_X := e_u (am_nv Sh) a
abbrev e_neg (a : am_X) : am_X := e_u (o_iu (fun x => -x)) a
abbrev e_i2l (a : am_X) : am_X := e_u o_i2l a
abbrev e_i2b (a : am_X) : am_X := e_u (o_iu (fun x => x.toInt8.toInt32)) a
abbrev e_i2s (a : am_X) : am_X := e_u (o_iu (fun x => x.toInt16.toInt32)) a
abbrev o_iadd : AV → AV → am_M → Option AV := o_ii (fun x y => x + y)
abbrev o_isub : AV → AV → am_M → Option AV := o_ii (fun x y => x - y)
abbrev o_imul : AV → AV → am_M → Option AV := o_ii (fun x y => x * y)
abbrev o_iand : AV → AV → am_M → Option AV := o_ii (fun x y => x &&& y)
abbrev o_ior : AV → AV → am_M → Option AV := o_ii (fun x y => x ||| y)
abbrev o_ishl : AV → AV → am_M → Option AV := o_ii (fun x y => x <<< (y &&& 31))
abbrev o_ishr : AV → AV → am_M → Option AV := o_ii (fun x y => x >>> (y &&& 31))
abbrev o_iushr : AV → AV → am_M → Option AV := o_ii (fun x y => (x.toUInt32 >>> (y.toUInt32 &&& Int32.toUInt32 31)).toInt32)
abbrev o_idiv : AV → AV → am_M → Option AV := o_iz (fun x y => x / y)
abbrev o_irem : AV → AV → am_M → Option AV := o_iz (fun x y => x - (x / y) * y)
abbrev o_ladd : AV → AV → am_M → Option AV := o_jj (fun x y => x + y)
abbrev o_lsub : AV → AV → am_M → Option AV := o_jj (fun x y => x - y)
abbrev o_lmul : AV → AV → am_M → Option AV := o_jj (fun x y => x * y)
abbrev o_ldiv : AV → AV → am_M → Option AV := o_jz (fun x y => x / y)
abbrev o_lrem : AV → AV → am_M → Option AV := o_jz (fun x y => x - (x / y) * y)
abbrev o_lshl : AV → AV → am_M → Option AV := o_ji (fun x y => x <<< (y.toInt64 &&& 63))
abbrev o_lcmp : AV → AV → am_M → Option AV := o_jc
