/-! WALKS as functions: THINGS, CALLS, one OPERATION, one STEP -/
abbrev Th : Type := Nat × (Nat → Int32) × (Nat → Nat) × (Nat → Int32) × (Nat → Nat → Int64)
def addT (T : Th) (y : Int32) (z : Nat) : Th := (T.1 + 1, va_up T.2.1 T.1 y, va_up T.2.2.1 T.1 z, va_up T.2.2.2.1 T.1 0, va_up T.2.2.2.2 T.1 (fun _ => if y < 16 then 0 else -1))
def wrC (T : Th) (t k : Nat) (v : Int64) : Th := (T.1, T.2.1, T.2.2.1, T.2.2.2.1, va_up T.2.2.2.2 t (va_up (T.2.2.2.2 t) k v))
def hdT (T : Th) (f : Nat → Int32) : Th := (T.1, T.2.1, T.2.2.1, f, T.2.2.2.2)
/-- rows of arrays, one behind the other -/
def mk_F (kr : Th → Th × Int64) (row : Nat) : Nat → Nat → Th → Th
  | 0, _, T => T
  | r + 1, k, T => mk_F kr row r (k + 1) (wrC (kr T).1 row k (kr T).2)
def mk_R : List Nat → Nat → Th → Th × Int64
  | [], _, T => (T, -1)
  | z :: zs, y, T => (mk_F (if 16 ≤ y then mk_R zs (y - 8) else fun T => (T, 0)) T.1 z 0 (addT T (nI y) z), lN T.1)
def cnt : List Nat → Nat
  | [] => 0
  | z :: zs => 1 + z * cnt zs
def okz : List Nat → Bool
  | [] => true
  | z :: zs => decide (z ≤ 100) && (decide (z = 0) || okz zs)
def room (n : Nat) (zs : List Nat) : Bool := okz zs && decide (n + cnt zs ≤ 60)
/-- numbers -/
def c_int (a : Nat) (x y : Int32) : Int32 := if a = 0 then x + y else if a = 1 then x - y else if a = 2 then x * y else if a = 3 then x / y else if a = 4 then x - x / y * y else if a = 5 then x &&& y else if a = 6 then x ||| y else if a = 7 then x ^^^ y else if a = 8 then x <<< (y &&& 31) else if a = 9 then x >>> (y &&& 31) else if a = 10 then (Int32.toUInt32 x >>> (Int32.toUInt32 y &&& Int32.toUInt32 31)).toInt32 else 0 - x
def c_lng (a : Nat) (x y : Int64) : Int64 := if a = 0 then x + y else if a = 1 then x - y else if a = 2 then x * y else if a = 3 then x / y else if a = 4 then x - x / y * y else if a = 5 then x &&& y else if a = 6 then x ||| y else if a = 7 then x ^^^ y else if a = 8 then x <<< (Int32.toInt64 (Int64.toInt32 y) &&& 63) else if a = 9 then x >>> (Int32.toInt64 (Int64.toInt32 y) &&& 63) else if a = 10 then (Int64.toUInt64 x >>> ((Int32.toInt64 (Int64.toInt32 y)).toUInt64 &&& Int64.toUInt64 63)).toInt64 else 0 - x
def c_nar (b : Nat) (x : Int32) : Int32 := if b = 5 then (Int32.toInt8 x).toInt32 else if b = 6 then (Int32.toInt16 x).toInt32 else (Int32.toUInt32 x % 65536).toInt32
def c_cnv (a : Nat) (x : Int64) : Int64 := if a = 4 then x else if a = 3 then Int32.toInt64 (Int64.toInt32 x) else Int32.toInt64 (c_nar (5 + a) (Int64.toInt32 x))
def c_ord (x y : Int64) : Int32 := if x = y then 0 else if x < y then -1 else 1
def c_msk (a : Nat) : Int64 := if 2 < a then 9223372036854775807 else 2147483647
def c_inf (a : Nat) : Int64 := if 2 < a then 9218868437227405312 else 2139095040
def c_sgn (a : Nat) (x : Int64) : Int64 := if x < 0 then 0 - (x &&& c_msk a) else x &&& c_msk a
def c_cmp (a : Nat) (x y : Int64) : Int32 := if a = 0 then c_ord x y else if c_inf a < (x &&& c_msk a) ∨ c_inf a < (y &&& c_msk a) then (if a % 2 = 1 then -1 else 1) else c_ord (c_sgn a x) (c_sgn a y)
def c_pas (b : Nat) (x : Int32) : Bool := if b = 0 then decide (x = 0) else if b = 1 then !decide (x = 0) else if b = 2 then decide (x < 0) else if b = 3 then !decide (x < 0) else if b = 4 then decide (0 < x) else !decide (0 < x)
/-- what an operation gives: a failure (and its thing), a value, what is held, the next operation, the things -/
abbrev Xr : Type := Option (Nat × Option Nat) × Int64 × (Nat → Nat) × Nat × Th
def xo (v : Int64) (hn : Nat → Nat) (nx : Nat) (T : Th) : Xr := (none, v, hn, nx, T)
def xf (f : Nat) (hn : Nat → Nat) (nx : Nat) (T : Th) : Xr := (some (f, none), 0, hn, nx, T)
def xft (f t : Nat) (hn : Nat → Nat) (nx : Nat) (T : Th) : Xr := (some (f, some t), 0, hn, nx, T)
def csI (y : Int32) : Int32 := if y < 16 then y - y / 8 * 8 else 4
def refc (T : Th) (x k : Int32) (b : Nat) : Option Nat := if x = -1 then some 1 else if T.2.1 (cN x) < 0 ∨ ¬ csI (T.2.1 (cN x)) = nI b then some 5 else if wi k (T.2.2.1 (cN x)) = false then some 2 else none
/-- the target that a table has for a key -/
def p_key (P : Pg) (t : Nat) (x : Int32) : Nat := match (List.range (p_ne P t)).find? (fun e => decide (p_ky P t e = x)) with
  | some e => p_tt P t e
  | none => p_ot P t
def szs (s : Nat → Int64) (d b : Nat) : List Nat := (List.range b).map (fun j => cN (s (d - b + j)).toInt32)
def ngs (s : Nat → Int64) (d b : Nat) : Bool := (List.range b).any (fun j => decide ((s (d - b + j)).toInt32 < 0))
def x_num (op a b d : Nat) (s : Nat → Int64) (hn : Nat → Nat) (i : Nat) (T : Th) : Xr :=
  if op = 17 then
    (if (a = 3 ∨ a = 4) ∧ s (d - wd b) = 0 then xf 0 hn i T else
     if a = 11 then xo (if b = 1 then c_lng a (s (d - wd b)) 0 else Int32.toInt64 (c_int a (s (d - wd b)).toInt32 0)) hn (i + 1) T else
     if a < 8 then xo (if b = 1 then c_lng a (s (d - wd b - wd b)) (s (d - wd b)) else Int32.toInt64 (c_int a (s (d - wd b - wd b)).toInt32 (s (d - wd b)).toInt32)) hn (i + 1) T else
     xo (if b = 1 then c_lng a (s (d - 1 - wd b)) (s (d - 1)) else Int32.toInt64 (c_int a (s (d - 1 - wd b)).toInt32 (s (d - 1)).toInt32)) hn (i + 1) T)
  else if op = 18 then xo (c_cnv a (s (d - wd (if a = 3 then 1 else 0)))) hn (i + 1) T
  else xo (Int32.toInt64 (c_cmp a (s (d - wd (kcm a) - wd (kcm a))) (s (d - wd (kcm a))))) hn (i + 1) T
def x_go (P : Pg) (op a b d : Nat) (s : Nat → Int64) (hn : Nat → Nat) (i : Nat) (T : Th) : Xr :=
  xo 0 hn (if op = 20 then a else if op = 21 then (if c_pas b (s (d - 1)).toInt32 = true then a else i + 1) else if op = 22 then (if ((s (d - 1)).toInt32 = -1 ↔ b = 0) then a else i + 1) else p_key P a (s (d - 1)).toInt32) T
def x_put (b : Nat) (v : Int64) (k x : Int32) (hn : Nat → Nat) (i : Nat) (T : Th) : Xr :=
  match refc T x k b with
  | some f => xf f hn i T
  | none => if b = 4 ∧ ¬ (v.toInt32 = -1 ∨ T.2.1 (cN v.toInt32) = T.2.1 (cN x) - 8) then xf 3 hn i T else xo 0 hn (i + 1) (wrC T (cN x) (cN k) (if b < 5 then v else Int32.toInt64 (c_nar b v.toInt32)))
def x_arr (op : Nat) (A : Int32) (b d : Nat) (s : Nat → Int64) (hn : Nat → Nat) (i : Nat) (T : Th) : Xr :=
  if op = 24 then (if ngs s d b = true then xf 4 hn i T else if room T.1 (szs s d b) = true then xo (lN T.1) hn (i + 1) (mk_R (szs s d b) (cN A) T).1 else xf 7 hn i T)
  else if op = 25 then (match refc T (s (d - 2)).toInt32 (s (d - 1)).toInt32 b with
    | some f => xf f hn i T
    | none => xo (T.2.2.2.2 (cN (s (d - 2)).toInt32) (cN (s (d - 1)).toInt32)) hn (i + 1) T)
  else if op = 26 then x_put b (s (d - wd (kcl b))) (s (d - wd (kcl b) - 1)).toInt32 (s (d - wd (kcl b) - 2)).toInt32 hn i T
  else if op = 27 then (if (s (d - 1)).toInt32 = -1 then xf 1 hn i T else if T.2.1 (cN (s (d - 1)).toInt32) < 0 then xf 5 hn i T else xo (lN (T.2.2.1 (cN (s (d - 1)).toInt32))) hn (i + 1) T)
  else if op = 28 then xo (if ¬ (s (d - 1)).toInt32 = -1 ∧ T.2.1 (cN (s (d - 1)).toInt32) = A then 1 else 0) hn (i + 1) T
  else (if (s (d - 1)).toInt32 = -1 ∨ T.2.1 (cN (s (d - 1)).toInt32) = A then xo (Int32.toInt64 (s (d - 1)).toInt32) hn (i + 1) T else xf 5 hn i T)
def x_fm (op : Nat) (A : Int32) (d : Nat) (s : Nat → Int64) (hn : Nat → Nat) (i : Nat) (T : Th) : Xr :=
  if op = 30 then (if T.1 = 60 then xf 7 hn i T else xo (lN T.1) hn (i + 1) (addT T (-100 + A) 0))
  else if (s (d - 1)).toInt32 = -1 then xf 1 hn i T
  else if op = 31 then (if T.2.1 (cN (s (d - 1)).toInt32) < 0 then xft (cN (T.2.1 (cN (s (d - 1)).toInt32) - (-100))) (cN (s (d - 1)).toInt32) hn i T else xf 5 hn i T)
  else if op = 32 then xo 0 (va_up hn (cN (s (d - 1)).toInt32) (hn (cN (s (d - 1)).toInt32) + 1)) (i + 1) (hdT T (va_up T.2.2.2.1 (cN (s (d - 1)).toInt32) (T.2.2.2.1 (cN (s (d - 1)).toInt32) + 1)))
  else if hn (cN (s (d - 1)).toInt32) = 0 then xf 6 hn i T
  else xo 0 (va_up hn (cN (s (d - 1)).toInt32) (hn (cN (s (d - 1)).toInt32) - 1)) (i + 1) (hdT T (va_up T.2.2.2.1 (cN (s (d - 1)).toInt32) (T.2.2.2.1 (cN (s (d - 1)).toInt32) + (-1))))
def x_val (P : Pg) (op : Nat) (A B : Int32) (d : Nat) (s l : Nat → Int64) (hn : Nat → Nat) (i : Nat) (T : Th) : Xr :=
  if op = 1 ∨ op = 3 then xo (p_c P (cN A)) hn (i + 1) T else if op = 4 then xo (-1) hn (i + 1) T else if op < 4 then xo (Int32.toInt64 A) hn (i + 1) T else if op = 5 then xo (l (cN A)) hn (i + 1) T
  else if op < 20 then x_num op (cN A) (cN B) d s hn i T else if op < 24 then x_go P op (cN A) (cN B) d s hn i T else if op < 30 then x_arr op A (cN B) d s hn i T else x_fm op A d s hn i T
def pushS (s : Nat → Int64) (d k : Nat) (x : Int64) : Nat → Int64 := if wd k = 2 then vp_updL (vp_updL s d x) (d + 1) 0 else vp_updL s d x
def tkW (ks : List Nat) : Nat := (ks.map wd).sum
/-- a call: its method, where it stands, stack, locals, what it holds -/
abbrev Cl : Type := Nat × Nat × Nat × (Nat → Int64) × (Nat → Int64) × (Nat → Nat)
/-- an operation that is no call and no end of one: the failure, the call behind it, the things -/
def x_op (P : Pg) (op : Nat) (A B : Int32) (c : Cl) (T : Th) : Option (Nat × Option Nat) × Cl × Th :=
  if 8 ≤ op ∧ op ≤ 16 then (none, (c.1, c.2.1 + 1, mvD op c.2.2.1, mvS op c.2.2.1 c.2.2.2.1, c.2.2.2.2.1, c.2.2.2.2.2), T)
  else if op = 6 then (none, (c.1, c.2.1 + 1, c.2.2.1 - wd (cN B), c.2.2.2.1, vp_updL c.2.2.2.2.1 (cN A) (c.2.2.2.1 (c.2.2.1 - wd (cN B))), c.2.2.2.2.2), T)
  else if op = 7 then (none, (c.1, c.2.1 + 1, c.2.2.1, c.2.2.2.1, vp_updL c.2.2.2.2.1 (cN A) (Int32.toInt64 ((c.2.2.2.2.1 (cN A)).toInt32 + B)), c.2.2.2.2.2), T)
  else ((x_val P op A B c.2.2.1 c.2.2.2.1 c.2.2.2.2.1 c.2.2.2.2.2 c.2.1 T).1, (c.1, (x_val P op A B c.2.2.1 c.2.2.2.1 c.2.2.2.2.1 c.2.2.2.2.2 c.2.1 T).2.2.2.1,
    (if j_pt P op (cN A) (cN B) = 5 then c.2.2.1 - tkW (j_tk P op (cN A) (cN B)) else c.2.2.1 - tkW (j_tk P op (cN A) (cN B)) + wd (j_pt P op (cN A) (cN B))),
    (if j_pt P op (cN A) (cN B) = 5 then c.2.2.2.1 else pushS c.2.2.2.1 (c.2.2.1 - tkW (j_tk P op (cN A) (cN B))) (j_pt P op (cN A) (cN B)) (x_val P op A B c.2.2.1 c.2.2.2.1 c.2.2.2.2.1 c.2.2.2.2.2 c.2.1 T).2.1),
    c.2.2.2.2.1, (x_val P op A B c.2.2.1 c.2.2.2.1 c.2.2.2.2.1 c.2.2.2.2.2 c.2.1 T).2.2.1), (x_val P op A B c.2.2.1 c.2.2.2.1 c.2.2.2.2.1 c.2.2.2.2.2 c.2.1 T).2.2.2.2)
/-- a walk: how many calls, the calls; things; failure, its operation, its method; calls made, most words, failures caught; the value -/
abbrev Wk : Type := (Nat × (Nat → Cl)) × Th × (Int32 × Int32 × Int32) × (Nat × Nat × Nat) × Int64
def p_cat (P : Pg) (m i f : Nat) : Option Nat := ((List.range (p_nh P m)).find? (fun k => pcov P m k i && (decide (p_hn P m k = -1) || decide (p_hn P m k = nI f)))).map (fun k => p_hg P m k)
def lgT (T : Th) (hn : Nat → Nat) : Th := hdT T (fun t => T.2.2.2.1 t - nI (hn t))
/-- calls that a failure ends -/
def w_un (P : Pg) (f : Nat) (C : Nat → Cl) : Nat → Th → Nat × Option Nat × Th
  | 0, T => (0, none, T)
  | n + 1, T => match p_cat P (C n).1 (C n).2.1 f with
    | some g => (n + 1, some g, T)
    | none => w_un P f C n (lgT T (C n).2.2.2.2.2)
def w_ft (f : Nat) (th : Option Nat) (T : Th) : Th × Int64 := match th with
  | some t => (T, lN t)
  | none => if T.1 = 60 then (T, -1) else (addT T (-100 + nI f) 0, lN T.1)
/-- who catches it, or nobody -/
def w_fn (P : Pg) (W : Wk) (f : Nat) (v : Int64) (m i : Nat) : Wk :=
  match (w_un P f W.1.2 W.1.1 W.2.1).2.1 with
  | some g => (((w_un P f W.1.2 W.1.1 W.2.1).1, va_up W.1.2 ((w_un P f W.1.2 W.1.1 W.2.1).1 - 1) ((W.1.2 ((w_un P f W.1.2 W.1.1 W.2.1).1 - 1)).1, g, 1, (fun _ => v), (W.1.2 ((w_un P f W.1.2 W.1.1 W.2.1).1 - 1)).2.2.2.2.1, (W.1.2 ((w_un P f W.1.2 W.1.1 W.2.1).1 - 1)).2.2.2.2.2)), (w_un P f W.1.2 W.1.1 W.2.1).2.2, W.2.2.1, (W.2.2.2.1.1, W.2.2.2.1.2.1, W.2.2.2.1.2.2 + 1), W.2.2.2.2)
  | none => ((0, W.1.2), (w_un P f W.1.2 W.1.1 W.2.1).2.2, (nI f, nI i, nI m), W.2.2.2.1, W.2.2.2.2)
def w_raise (P : Pg) (W : Wk) (f : Nat) (th : Option Nat) (m i : Nat) : Wk := w_fn P (W.1, (w_ft f th W.2.1).1, W.2.2) f (w_ft f th W.2.1).2 m i
/-- arguments: from the stack of who calls, from what is given -/
def argS (P : Pg) (c : Nat) (s : Nat → Int64) : Nat → Nat → (Nat → Int64) → (Nat → Int64)
  | 0, _, l => l
  | k + 1, d, l => argS P c s k (d - wd (p_ka P c k)) (vp_updL l (p_aw P c k) (s (d - wd (p_ka P c k))))
def asA (k : Nat) (v : Int64) : Int64 := if k = 4 then -1 else if wd k = 2 then v else Int32.toInt64 (Int64.toInt32 v)
def argG (P : Pg) (m : Nat) (gv : Nat → Int64) : Nat → (Nat → Int64) → (Nat → Int64)
  | 0, l => l
  | k + 1, l => vp_updL (argG P m gv k l) (p_aw P m k) (asA (p_ka P m k) (gv k))
def w_leave (P : Pg) (W : Wk) (n : Nat) (c : Cl) : Wk :=
  if 0 < sm 60 c.2.2.2.2.2 then w_raise P W 6 none c.1 c.2.1
  else if n = 0 then ((0, W.1.2), W.2.1, W.2.2.1, W.2.2.2.1, if p_re P c.1 = 5 then 0 else c.2.2.2.1 (c.2.2.1 - wd (p_re P c.1)))
  else ((n, va_up W.1.2 (n - 1) ((W.1.2 (n - 1)).1, (W.1.2 (n - 1)).2.1 + 1, (if p_re P c.1 = 5 then (W.1.2 (n - 1)).2.2.1 else (W.1.2 (n - 1)).2.2.1 + wd (p_re P c.1)), (if p_re P c.1 = 5 then (W.1.2 (n - 1)).2.2.2.1 else pushS (W.1.2 (n - 1)).2.2.2.1 (W.1.2 (n - 1)).2.2.1 (p_re P c.1) (c.2.2.2.1 (c.2.2.1 - wd (p_re P c.1)))), (W.1.2 (n - 1)).2.2.2.2.1, (W.1.2 (n - 1)).2.2.2.2.2)), W.2.1, W.2.2.1, W.2.2.2.1, W.2.2.2.2)
def w_enter (P : Pg) (W : Wk) (n : Nat) (c : Cl) (a : Nat) : Wk :=
  if n = 5 then w_raise P W 8 none c.1 c.2.1
  else ((n + 2, va_up (va_up W.1.2 n (c.1, c.2.1, c.2.2.1 - p_nw P a, c.2.2.2.1, c.2.2.2.2.1, c.2.2.2.2.2)) (n + 1) (a, 0, 0, (fun _ => 0), argS P a c.2.2.2.1 (p_na P a) c.2.2.1 (W.1.2 (n + 1)).2.2.2.2.1, (fun _ => 0))), W.2.1, W.2.2.1, (W.2.2.2.1.1 + 1, W.2.2.2.1.2.1, W.2.2.2.1.2.2), W.2.2.2.2)
def w_plain (P : Pg) (W : Wk) (n : Nat) (c : Cl) (r : Option (Nat × Option Nat) × Cl × Th) : Wk := match r.1 with
  | some f => w_raise P ((W.1.1, W.1.2), r.2.2, W.2.2) f.1 f.2 c.1 c.2.1
  | none => ((W.1.1, va_up W.1.2 n r.2.1), r.2.2, W.2.2)
/-- one operation of the uppermost call, whose number is n -/
def w_one (P : Pg) (W : Wk) (n : Nat) : Wk :=
  if p_op P (W.1.2 n).1 (W.1.2 n).2.1 = 34 then w_leave P W n (W.1.2 n)
  else if p_op P (W.1.2 n).1 (W.1.2 n).2.1 = 35 then w_enter P W n (W.1.2 n) (cN (p_A P (W.1.2 n).1 (W.1.2 n).2.1))
  else w_plain P W n (W.1.2 n) (x_op P (p_op P (W.1.2 n).1 (W.1.2 n).2.1) (p_A P (W.1.2 n).1 (W.1.2 n).2.1) (p_B P (W.1.2 n).1 (W.1.2 n).2.1) (W.1.2 n) W.2.1)
def w_max (W : Wk) : Wk := if 0 < W.1.1 then (W.1, W.2.1, W.2.2.1, (W.2.2.2.1.1, (if W.2.2.2.1.2.1 < (W.1.2 (W.1.1 - 1)).2.2.1 then (W.1.2 (W.1.1 - 1)).2.2.1 else W.2.2.2.1.2.1), W.2.2.2.1.2.2), W.2.2.2.2) else W
/-- at most r steps more, k made -/
def w_run (P : Pg) : Nat → Nat → Wk → Nat × Wk
  | 0, k, W => (k, W)
  | r + 1, k, W => if W.1.1 = 0 then (k, W) else w_run P r (k + 1) (w_max (w_one P W (W.1.1 - 1)))
