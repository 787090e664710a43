/-! A typed interpreter: cells have kinds; ints have tags with bounds; references and longs have names; an overlay says what slots hold now -/
/-- an int between two bounds, a reference to a kind, a long (true), anything (false) -/
abbrev rt_T : Type := (Int × Int) ⊕ (Nat ⊕ Bool)
/-- a flag (0 may be stored, 1 unchanged, 2 not stored here), a type -/
abbrev rt_F : Type := Nat × rt_T
/-- an object: its class, its fields; an array: its type, its segments -/
abbrev rt_K : Type := (Nat × List rt_F) ⊕ (Nat × List (Nat × rt_F))
/-- an int; a reference: its kind, its name (0: none); a long: its name; anything -/
abbrev rt_V : Type := ri_I ⊕ ((Nat × Nat) ⊕ Option Nat)
/-- a tag: its bounds; it is not less than another one and a number; it is not this; it is (true) a tag and a mask, (false) a long compared -/
abbrev rt_B : Type := (Int × Int) × (Nat × Int) × Option Int × Option (Bool × Nat × Int)
/-- a name, a place above a tag, what is there -/
abbrev rt_O : Type := Nat × (Nat × Int) × rt_V
abbrev rt_N : Type := List rt_B × List Nat × List (Option Int)
/-- place; mode, ghost; tags, names, longs; locals, stack, overlay -/
abbrev rt_S : Type := Nat × (Nat × Nat) × rt_N × List (Option rt_V) × List rt_V × List rt_O
abbrev rt_E (S : rt_S) : List rt_B := S.2.2.1.1
abbrev rt_R (S : rt_S) : List Nat := S.2.2.1.2.1
abbrev rt_L (S : rt_S) : List (Option Int) := S.2.2.1.2.2
abbrev rt_lo (S : rt_S) : List (Option rt_V) := S.2.2.2.1
abbrev rt_st (S : rt_S) : List rt_V := S.2.2.2.2.1
abbrev rt_ov (S : rt_S) : List rt_O := S.2.2.2.2.2
def rt_max (a b : Int) : Int := cond (ri_le a b) b a
def rt_min (a b : Int) : Int := cond (ri_le a b) a b
noncomputable def rt_abs (E : List rt_B) (x : ri_I) : Option (Int × Int) := match x.1 with
  | 0 => some x.2
  | Nat.succ k => (match ri_nth E k with
    | some b => some (Int.add b.1.1 x.2.1, Int.add b.1.2 x.2.2)
    | none => none)
/-- an interval above a tag, if all its ints are ints; else without the tag -/
noncomputable def rt_mkT (E : List rt_B) (k : Nat) (a b : Int) : Option ri_I := match k with
  | 0 => some (ri_mk a b)
  | Nat.succ j => (match ri_nth E j with
    | some q => some (cond (ri_le ri_lo (Int.add q.1.1 a)) (cond (ri_le (Int.add q.1.2 b) ri_hi) (k, a, b) (ri_mk (Int.add q.1.1 a) (Int.add q.1.2 b))) (ri_mk (Int.add q.1.1 a) (Int.add q.1.2 b)))
    | none => none)
def rt_ex (x : ri_I) : Bool := ri_le x.2.2 x.2.1
/-- above a tag, and exact -/
def rt_tx (x : ri_I) : Bool := cond (Nat.beq x.1 0) false (rt_ex x)
/-- what a tag's relation says of x - y -/
noncomputable def rt_rel (E : List rt_B) (x y : ri_I) : Option Int := match x.1 with
  | 0 => none
  | Nat.succ k => (match y.1 with
    | 0 => none
    | Nat.succ j => (match ri_nth E k with
      | some e => cond (Nat.beq e.2.1.1 (Nat.succ j)) (some (Int.sub (Int.add e.2.1.2 x.2.1) y.2.2)) none
      | none => none))
/-- a lower bound of x - y -/
noncomputable def rt_low (E : List rt_B) (x y : ri_I) : Option Int := cond (Nat.beq x.1 y.1) (some (Int.sub x.2.1 y.2.2)) (match rt_abs E x with
  | none => none
  | some a => (match rt_abs E y with
    | none => none
    | some b => (match rt_rel E x y with
      | none => some (Int.sub a.1 b.2)
      | some l => some (rt_max (Int.sub a.1 b.2) l))))
noncomputable def rt_add (E : List rt_B) (x y : ri_I) : Option ri_I := match y.1 with
  | 0 => rt_mkT E x.1 (Int.add x.2.1 y.2.1) (Int.add x.2.2 y.2.2)
  | Nat.succ _ => (match x.1 with
    | 0 => rt_mkT E y.1 (Int.add x.2.1 y.2.1) (Int.add x.2.2 y.2.2)
    | Nat.succ _ => (match rt_abs E x with
      | none => none
      | some a => (match rt_abs E y with
        | none => none
        | some b => some (ri_mk (Int.add a.1 b.1) (Int.add a.2 b.2)))))
noncomputable def rt_sub (E : List rt_B) (x y : ri_I) : Option ri_I := match y.1 with
  | 0 => rt_mkT E x.1 (Int.sub x.2.1 y.2.2) (Int.sub x.2.2 y.2.1)
  | Nat.succ _ => cond (Nat.beq x.1 y.1) (some (ri_mk (Int.sub x.2.1 y.2.2) (Int.sub x.2.2 y.2.1))) (match rt_low E x y with
    | none => none
    | some l => (match rt_abs E x with
      | none => none
      | some a => (match rt_abs E y with
        | none => none
        | some b => some (ri_mk l (Int.sub a.2 b.1)))))
noncomputable def rt_mul (E : List rt_B) (x y : ri_I) : Option ri_I := match rt_abs E x with
  | none => none
  | some a => (match rt_abs E y with
    | none => none
    | some b => some (ri_mk (rt_min (rt_min (Int.mul a.1 b.1) (Int.mul a.1 b.2)) (rt_min (Int.mul a.2 b.1) (Int.mul a.2 b.2))) (rt_max (rt_max (Int.mul a.1 b.1) (Int.mul a.1 b.2)) (rt_max (Int.mul a.2 b.1) (Int.mul a.2 b.2)))))
/-- 0 is not in it -/
def rt_nz (b : Int × Int) : Bool := cond (ri_le 1 b.1) true (ri_le b.2 (-1))
noncomputable def rt_div (E : List rt_B) (x y : ri_I) : Option ri_I := match rt_abs E x with
  | none => none
  | some a => (match rt_abs E y with
    | none => none
    | some b => cond (rt_nz b) (match a.1 with
      | .negSucc _ => some ri_top
      | .ofNat a1 => (match a.2 with
        | .negSucc _ => some ri_top
        | .ofNat a2 => (match b.1 with
          | .negSucc _ => some ri_top
          | .ofNat b1 => (match b.2 with
            | .negSucc _ => some ri_top
            | .ofNat b2 => cond (Nat.beq b1 b2) (some (ri_mk (.ofNat (Nat.div a1 b1)) (.ofNat (Nat.div a2 b1)))) (some ri_top))))) none)
noncomputable def rt_rem (E : List rt_B) (_ y : ri_I) : Option ri_I := match rt_abs E y with
  | none => none
  | some b => cond (rt_nz b) (some ri_top) none
noncomputable def rt_neg (E : List rt_B) (x : ri_I) : Option ri_I := match rt_abs E x with
  | none => none
  | some a => some (ri_mk (Int.neg a.2) (Int.neg a.1))
noncomputable def rt_i2b (E : List rt_B) (x : ri_I) : Option ri_I := match rt_abs E x with
  | none => none
  | some a => cond (ri_le (-128) a.1) (cond (ri_le a.2 127) (some x) (some (0, -128, 127))) (some (0, -128, 127))
noncomputable def rt_maxf (E : List rt_B) (x y : ri_I) : Option ri_I := match rt_abs E x with
  | none => none
  | some a => (match rt_abs E y with
    | none => none
    | some b => some (0, rt_max a.1 b.1, rt_max a.2 b.2))
noncomputable def rt_minf (E : List rt_B) (x y : ri_I) : Option ri_I := match rt_abs E x with
  | none => none
  | some a => (match rt_abs E y with
    | none => none
    | some b => some (0, rt_min a.1 b.1, rt_min a.2 b.2))
noncomputable def rt_absf (E : List rt_B) (x : ri_I) : Option ri_I := match rt_abs E x with
  | none => none
  | some a => some (cond (ri_le a.1 ri_lo) ri_top (cond (ri_le 0 a.1) (0, a) (0, 0, rt_max (Int.neg a.1) a.2)))
/-- the tag t is held to be e, unless nothing is left -/
noncomputable def rt_put (E : List rt_B) (t : Nat) (e : rt_B) : Option (List rt_B) := cond (ri_le e.1.1 e.1.2) (cond (ri_le e.1.2 e.1.1) (match e.2.2.1 with
    | some c => cond (ri_le c e.1.1) (cond (ri_le e.1.1 c) none (some (ri_set e E t))) (some (ri_set e E t))
    | none => some (ri_set e E t)) (some (ri_set e E t))) none
noncomputable def rt_slo (E : List rt_B) (x : ri_I) (a : Int) : Option (List rt_B) := match x.1 with
  | 0 => some E
  | Nat.succ t => (match ri_nth E t with
    | none => some E
    | some e => rt_put E t ((rt_max e.1.1 (Int.sub a x.2.1), e.1.2), e.2))
noncomputable def rt_shi (E : List rt_B) (x : ri_I) (a : Int) : Option (List rt_B) := match x.1 with
  | 0 => some E
  | Nat.succ t => (match ri_nth E t with
    | none => some E
    | some e => rt_put E t ((e.1.1, rt_min e.1.2 (Int.sub a x.2.1)), e.2))
/-- x is not less than y and d -/
noncomputable def rt_srl (E : List rt_B) (x y : ri_I) (d : Int) : List rt_B := match x.1 with
  | 0 => E
  | Nat.succ t => (match ri_nth E t with
    | none => E
    | some e => cond (cond (Nat.beq e.2.1.1 0) true (cond (Nat.beq e.2.1.1 y.1) (ri_le e.2.1.2 (Int.sub (Int.add y.2.1 d) x.2.1)) false)) (ri_set (e.1, (y.1, Int.sub (Int.add y.2.1 d) x.2.1), e.2.2) E t) E)
noncomputable def rt_sne (E : List rt_B) (x : ri_I) (a : Int) : Option (List rt_B) := match x.1 with
  | 0 => some E
  | Nat.succ t => (match ri_nth E t with
    | none => some E
    | some e => cond (ri_le e.1.1 (Int.sub a x.2.1)) (cond (ri_le (Int.sub a x.2.1) e.1.1) (rt_put E t ((Int.add e.1.1 1, e.1.2), e.2)) (cond (ri_le e.1.2 (Int.sub a x.2.1)) (cond (ri_le (Int.sub a x.2.1) e.1.2) (rt_put E t ((e.1.1, Int.sub e.1.2 1), e.2)) (some E)) (rt_put E t (e.1, e.2.1, some (Int.sub a x.2.1), e.2.2.2)))) (some E))
/-- it can't be a -/
noncomputable def rt_isne (E : List rt_B) (x : ri_I) (a : Int) : Bool := match x.1 with
  | 0 => false
  | Nat.succ t => (match ri_nth E t with
    | none => false
    | some e => (match e.2.2.1 with
      | none => false
      | some c => cond (ri_le c (Int.sub a x.2.1)) (ri_le (Int.sub a x.2.1) c) false))
def rt_bd (o : Option (List rt_B)) (f : List rt_B → Option (List rt_B)) : Option (List rt_B) := match o with
  | none => none
  | some E => f E
def rt_ge0 (o : Option Int) (d : Int) : Bool := match o with
  | none => false
  | some l => ri_le d l
/-- the tags, where x < y holds; none: it never does -/
noncomputable def rt_rlt (E : List rt_B) (x y : ri_I) : Option (List rt_B) := cond (rt_ge0 (rt_low E x y) 0) none (cond (Nat.beq x.1 y.1) (some E) (match rt_abs E x with
  | none => some E
  | some a => (match rt_abs E y with
    | none => some E
    | some b => rt_bd (cond (rt_tx x) (rt_shi E x (Int.sub b.2 1)) (some E)) (fun E1 => cond (rt_tx y) (rt_bd (rt_slo E1 y (Int.add a.1 1)) (fun E2 => some (cond (rt_tx x) (rt_srl E2 y x 1) E2))) (some E1)))))
/-- .. x ≥ y .. -/
noncomputable def rt_rge (E : List rt_B) (x y : ri_I) : Option (List rt_B) := cond (rt_ge0 (rt_low E y x) 1) none (cond (Nat.beq x.1 y.1) (some E) (match rt_abs E x with
  | none => some E
  | some a => (match rt_abs E y with
    | none => some E
    | some b => rt_bd (cond (rt_tx x) (rt_bd (rt_slo E x b.1) (fun E2 => some (cond (rt_tx y) (rt_srl E2 x y 0) E2))) (some E)) (fun E1 => cond (rt_tx y) (rt_shi E1 y a.2) (some E1)))))
noncomputable def rt_req (E : List rt_B) (x y : ri_I) : Option (List rt_B) := cond (rt_ge0 (rt_low E x y) 1) none (cond (rt_ge0 (rt_low E y x) 1) none (cond (Nat.beq x.1 y.1) (some E) (match rt_abs E x with
  | none => some E
  | some a => (match rt_abs E y with
    | none => some E
    | some b => cond (cond (ri_le b.2 b.1) (cond (rt_tx x) (rt_isne E x b.1) false) false) none (rt_bd (cond (rt_tx x) (rt_bd (rt_slo E x b.1) (fun E2 => rt_shi E2 x b.2)) (some E)) (fun E1 => cond (rt_tx y) (rt_bd (rt_slo E1 y a.1) (fun E2 => rt_shi E2 y a.2)) (some E1)))))))
noncomputable def rt_rne (E : List rt_B) (x y : ri_I) : Option (List rt_B) := cond (Nat.beq x.1 y.1) (cond (cond (rt_ex x) (cond (rt_ex y) (cond (ri_le x.2.1 y.2.1) (ri_le y.2.1 x.2.1) false) false) false) none (some E)) (match rt_abs E x with
  | none => some E
  | some a => (match rt_abs E y with
    | none => some E
    | some b => cond (ri_le b.2 b.1) (cond (rt_tx x) (rt_sne E x b.1) (cond (ri_le a.2 a.1) (cond (ri_le a.1 b.1) (cond (ri_le b.1 a.1) none (some E)) (some E)) (some E))) (some E)))
noncomputable def rt_ref (c : Jvm.ClassFile.Cond) (E : List rt_B) (x y : ri_I) : Option (List rt_B) := match c with
  | .eq => rt_req E x y
  | .ne => rt_rne E x y
  | .lt => rt_rlt E x y
  | .ge => rt_rge E x y
  | .gt => rt_rlt E y x
  | .le => rt_rge E y x
def rt_cn (c : Jvm.ClassFile.Cond) : Jvm.ClassFile.Cond := match c with
  | .eq => .ne
  | .ne => .eq
  | .lt => .ge
  | .ge => .lt
  | .gt => .le
  | .le => .gt
