/-! One step of the typed interpreter -/
noncomputable def rt_kd (KK : List (List rt_K)) (g k : Nat) : Option rt_K := match ri_nth KK g with
  | none => none
  | some l => ri_nth l k
/-- the type at a place -/
noncomputable def rt_sg (l : List (Nat × rt_F)) : Nat → Option rt_F := List.rec (motive := fun _ => Nat → Option rt_F) (fun _ => none) (fun q _ ih i => cond (Nat.blt i q.1) (some q.2) (ih (Nat.sub i q.1))) l
/-- the types at the places i .. j -/
noncomputable def rt_cov (l : List (Nat × rt_F)) : Nat → Nat → List rt_F := List.rec (motive := fun _ => Nat → Nat → List rt_F) (fun _ _ => []) (fun q _ ih i j => cond (Nat.blt i q.1) (q.2 :: cond (Nat.blt j q.1) [] (ih 0 (Nat.sub j q.1))) (ih (Nat.sub i q.1) (Nat.sub j q.1))) l
noncomputable def rt_tot (l : List (Nat × rt_F)) : Nat := List.rec (motive := fun _ => Nat) 0 (fun q _ ih => Nat.add q.1 ih) l
noncomputable def rt_sT (kd : rt_K) (i : Nat) : Option rt_F := match kd with
  | .inl o => ri_nth o.2 i
  | .inr a => rt_sg a.2 i
def rt_hu (T U : rt_T) : Option rt_T := match T with
  | .inl a => (match U with
    | .inl b => some (.inl (rt_min a.1 b.1, rt_max a.2 b.2))
    | .inr _ => none)
  | .inr (.inl k) => (match U with
    | .inr (.inl j) => cond (Nat.beq k j) (some T) none
    | _ => none)
  | .inr (.inr true) => (match U with
    | .inr (.inr true) => some T
    | _ => none)
  | .inr (.inr false) => some T
noncomputable def rt_hull (l : List rt_F) : Option rt_T := List.rec (motive := fun _ => Option rt_T) none (fun q t ih => match t with
  | [] => some q.2
  | _ :: _ => (match ih with
    | none => none
    | some U => rt_hu q.2 U)) l
/-- a value of a type -/
noncomputable def rt_vT (n : rt_N) (T : rt_T) : rt_N × rt_V := match T with
  | .inl a => cond (ri_le a.2 a.1) (n, .inl (0, a)) ((List.append n.1 [(a, (0, 0), none, none)], n.2), .inl (Nat.succ (ri_len n.1), 0, 0))
  | .inr (.inl k) => ((n.1, List.append n.2.1 [k], n.2.2), .inr (.inl (k, Nat.succ (ri_len n.2.1))))
  | .inr (.inr true) => ((n.1, n.2.1, List.append n.2.2 [none]), .inr (.inr (some (Nat.succ (ri_len n.2.2)))))
  | .inr (.inr false) => (n, .inr (.inr none))
/-- an exact name for an int -/
noncomputable def rt_nm (n : rt_N) (x : ri_I) : Option (rt_N × ri_I) := cond (rt_ex x) (some (n, x)) (match rt_abs n.1 x with
  | none => none
  | some a => some ((List.append n.1 [(a, (x.1, x.2.1), none, none)], n.2), (Nat.succ (ri_len n.1), 0, 0)))
noncomputable def rt_nmV (n : rt_N) (v : rt_V) : Option (rt_N × rt_V) := match v with
  | .inl x => (match rt_nm n x with
    | none => none
    | some q => some (q.1, .inl q.2))
  | .inr w => some (n, .inr w)
def rt_seq (p q : Nat × Int) : Bool := cond (Nat.beq p.1 q.1) (cond (ri_le p.2 q.2) (ri_le q.2 p.2) false) false
/-- what the overlay says of a name's place -/
noncomputable def rt_og (ov : List rt_O) (k : Nat) (sel : Nat × Int) : Option rt_V := match k with
  | 0 => none
  | Nat.succ _ => List.rec (motive := fun _ => Option rt_V) none (fun o _ ih => cond (Nat.beq o.1 k) (cond (rt_seq o.2.1 sel) (some o.2.2) ih) ih) ov
/-- does an entry outlast a store into a place of a cell of the kind k -/
noncomputable def rt_outl (R : List Nat) (k : Nat) (sel : Nat × Int) (o : rt_O) : Bool := match o.1 with
  | 0 => false
  | Nat.succ j => (match ri_nth R j with
    | none => false
    | some k' => cond (Nat.beq k' k) (cond (Nat.beq o.2.1.1 0) (cond (Nat.beq sel.1 0) (cond (ri_le o.2.1.2 sel.2) (cond (ri_le sel.2 o.2.1.2) false true) true) false) false) true)
noncomputable def rt_fil (f : rt_O → Bool) (ov : List rt_O) : List rt_O := List.rec (motive := fun _ => List rt_O) [] (fun o _ ih => cond (f o) (o :: ih) ih) ov
noncomputable def rt_ost (R : List Nat) (ov : List rt_O) (nm k : Nat) (sel : Nat × Int) (v : rt_V) : List rt_O := match nm with
  | 0 => rt_fil (rt_outl R k sel) ov
  | Nat.succ _ => (nm, sel, v) :: rt_fil (rt_outl R k sel) ov
/-- no entry of that kind -/
noncomputable def rt_oth (R : List Nat) (k : Nat) (o : rt_O) : Bool := match o.1 with
  | 0 => false
  | Nat.succ j => (match ri_nth R j with
    | none => false
    | some k' => cond (Nat.beq k' k) false true)
noncomputable def rt_lset (lo : List (Option rt_V)) (k : Nat) (v : rt_V) : List (Option rt_V) := ri_set (some v) (match k with
  | 0 => lo
  | Nat.succ j => (match ri_nth lo j with
    | some (some (.inr (.inr _))) => ri_set none lo j
    | _ => lo)) k
def rt_nx (r : ri_R) (S : rt_S) (st : List rt_V) : Option (List rt_S) := some [(Nat.add S.1 r.2.1, S.2.1, S.2.2.1, S.2.2.2.1, st, S.2.2.2.2.2)]
noncomputable def rt_iload (r : ri_R) (S : rt_S) : Option (List rt_S) := match cond (Nat.blt r.2.2.1 20) (ri_nth (rt_lo S) r.2.2.1) none with
  | some (some (.inl x)) => rt_nx r S (.inl x :: rt_st S)
  | _ => none
noncomputable def rt_aload (r : ri_R) (S : rt_S) : Option (List rt_S) := match cond (Nat.blt r.2.2.1 20) (ri_nth (rt_lo S) r.2.2.1) none with
  | some (some (.inr (.inl x))) => rt_nx r S (.inr (.inl x) :: rt_st S)
  | _ => none
noncomputable def rt_lload (r : ri_R) (S : rt_S) : Option (List rt_S) := match cond (Nat.blt r.2.2.1 20) (ri_nth (rt_lo S) r.2.2.1) none with
  | some (some (.inr (.inr (some t)))) => rt_nx r S (.inr (.inr (some t)) :: rt_st S)
  | _ => none
noncomputable def rt_istore (r : ri_R) (S : rt_S) : Option (List rt_S) := match rt_st S with
  | .inl x :: st => (match rt_nm S.2.2.1 x with
    | none => none
    | some q => some [(Nat.add S.1 r.2.1, S.2.1, q.1, rt_lset (rt_lo S) r.2.2.1 (.inl q.2), st, rt_ov S)])
  | _ => none
noncomputable def rt_astore (r : ri_R) (S : rt_S) : Option (List rt_S) := match rt_st S with
  | .inr (.inl x) :: st => some [(Nat.add S.1 r.2.1, S.2.1, S.2.2.1, rt_lset (rt_lo S) r.2.2.1 (.inr (.inl x)), st, rt_ov S)]
  | _ => none
noncomputable def rt_lstore (r : ri_R) (S : rt_S) : Option (List rt_S) := match rt_st S with
  | .inr (.inr (some t)) :: st => some [(Nat.add S.1 r.2.1, S.2.1, S.2.2.1, ri_set none (rt_lset (rt_lo S) r.2.2.1 (.inr (.inr (some t)))) (Nat.succ r.2.2.1), st, rt_ov S)]
  | _ => none
def rt_push (r : ri_R) (S : rt_S) : Option (List rt_S) := rt_nx r S (.inl (0, r.2.2.2.2, r.2.2.2.2) :: rt_st S)
/-- a long that is known -/
noncomputable def rt_lpush (r : ri_R) (S : rt_S) (c : Option Int) : Option (List rt_S) := some [(Nat.add S.1 r.2.1, S.2.1, (rt_E S, rt_R S, List.append (rt_L S) [c]), rt_lo S, .inr (.inr (some (Nat.succ (ri_len (rt_L S))))) :: rt_st S, rt_ov S)]
def rt_bin (f : ri_I → ri_I → Option ri_I) (r : ri_R) (S : rt_S) : Option (List rt_S) := match rt_st S with
  | .inl y :: .inl x :: st => (match f x y with
    | some z => rt_nx r S (.inl z :: st)
    | none => none)
  | _ => none
def rt_un (f : ri_I → Option ri_I) (r : ri_R) (S : rt_S) : Option (List rt_S) := match rt_st S with
  | .inl x :: st => (match f x with
    | some z => rt_nx r S (.inl z :: st)
    | none => none)
  | _ => none
def rt_lbin (r : ri_R) (S : rt_S) : Option (List rt_S) := match rt_st S with
  | .inr (.inr (some _)) :: .inr (.inr (some _)) :: st => rt_nx r S (.inr (.inr (some 0)) :: st)
  | _ => none
def rt_lshl (r : ri_R) (S : rt_S) : Option (List rt_S) := match rt_st S with
  | .inl _ :: .inr (.inr (some _)) :: st => rt_nx r S (.inr (.inr (some 0)) :: st)
  | _ => none
def rt_i2l (r : ri_R) (S : rt_S) : Option (List rt_S) := match rt_st S with
  | .inl _ :: st => rt_nx r S (.inr (.inr (some 0)) :: st)
  | _ => none
def rt_dfe (p q : Bool × Nat × Int) : Bool := cond (match p.1 with
  | true => q.1
  | false => (match q.1 with
    | true => false
    | false => true)) (cond (Nat.beq p.2.1 q.2.1) (cond (ri_le p.2.2 q.2.2) (ri_le q.2.2 p.2.2) false) false) false
/-- the tag that is made so -/
noncomputable def rt_fd (E : List rt_B) (q : Bool × Nat × Int) : Nat → Option Nat := List.rec (motive := fun _ => Nat → Option Nat) (fun _ => none) (fun e _ ih k => match e.2.2.2 with
  | none => ih (Nat.succ k)
  | some p => cond (rt_dfe p q) (some k) (ih (Nat.succ k))) E
noncomputable def rt_memo (r : ri_R) (S : rt_S) (q : Bool × Nat × Int) (lo hi : Int) (st : List rt_V) : Option (List rt_S) := match rt_fd (rt_E S) q 0 with
  | some k => rt_nx r S (.inl (Nat.succ k, 0, 0) :: st)
  | none => some [(Nat.add S.1 r.2.1, S.2.1, (List.append (rt_E S) [((lo, hi), (0, 0), none, some q)], rt_R S, rt_L S), rt_lo S, .inl (Nat.succ (ri_len (rt_E S)), 0, 0) :: st, rt_ov S)]
noncomputable def rt_and (r : ri_R) (S : rt_S) : Option (List rt_S) := match rt_st S with
  | .inl y :: .inl x :: st => cond (Nat.beq y.1 0) (cond (rt_ex y) (cond (ri_le 0 y.2.1) (cond (ri_le y.2.1 y.2.2) (match x.1 with
      | 0 => rt_nx r S (.inl (0, 0, y.2.1) :: st)
      | Nat.succ t => cond (ri_le 0 x.2.1) (cond (ri_le x.2.1 0) (cond (ri_le x.2.2 0) (cond (ri_le 0 x.2.2) (rt_memo r S (true, Nat.succ t, y.2.1) 0 y.2.1 st) (rt_nx r S (.inl ri_top :: st))) (rt_nx r S (.inl ri_top :: st))) (rt_nx r S (.inl ri_top :: st))) (rt_nx r S (.inl ri_top :: st))) (rt_nx r S (.inl ri_top :: st))) (rt_nx r S (.inl ri_top :: st))) (rt_nx r S (.inl ri_top :: st))) (rt_nx r S (.inl ri_top :: st))
  | _ => none
/-- the number that a long is known to be -/
noncomputable def rt_lv2 (E : List rt_B) (t : Nat) : Option Int := List.rec (motive := fun _ => Option Int) none (fun e _ ih => match e.2.2.2 with
  | some (false, j, c) => cond (Nat.beq j t) (cond (ri_le 0 e.1.1) (cond (ri_le e.1.2 0) (some c) ih) ih) ih
  | _ => ih) E
noncomputable def rt_lv (n : rt_N) (t : Nat) : Option Int := match t with
  | 0 => none
  | Nat.succ j => (match ri_nth n.2.2 j with
    | some (some c) => some c
    | _ => rt_lv2 n.1 t)
def rt_c3 (a b : Int) : Int := cond (ri_le a b) (cond (ri_le b a) 0 (-1)) 1
noncomputable def rt_lcmp (r : ri_R) (S : rt_S) : Option (List rt_S) := match rt_st S with
  | .inr (.inr (some y)) :: .inr (.inr (some x)) :: st => (match rt_lv S.2.2.1 y with
    | none => rt_nx r S (.inl (0, -1, 1) :: st)
    | some cy => (match rt_lv S.2.2.1 x with
      | some cx => rt_nx r S (.inl (0, rt_c3 cx cy, rt_c3 cx cy) :: st)
      | none => (match x with
        | 0 => rt_nx r S (.inl (0, -1, 1) :: st)
        | Nat.succ t => rt_memo r S (false, Nat.succ t, cy) (-1) 1 st)))
  | _ => none
def rt_c1 (v : rt_V) : Bool := match v with
  | .inl _ => true
  | .inr (.inl _) => true
  | .inr (.inr _) => false
def rt_dup (r : ri_R) (S : rt_S) : Option (List rt_S) := match rt_st S with
  | a :: st => cond (rt_c1 a) (rt_nx r S (a :: a :: st)) none
  | _ => none
def rt_pop (r : ri_R) (S : rt_S) : Option (List rt_S) := match rt_st S with
  | a :: st => cond (rt_c1 a) (rt_nx r S st) none
  | _ => none
def rt_dupx1 (r : ri_R) (S : rt_S) : Option (List rt_S) := match rt_st S with
  | a :: b :: st => cond (rt_c1 a) (cond (rt_c1 b) (rt_nx r S (a :: b :: a :: st)) none) none
  | _ => none
def rt_dup2 (r : ri_R) (S : rt_S) : Option (List rt_S) := match rt_st S with
  | a :: b :: st => cond (rt_c1 a) (cond (rt_c1 b) (rt_nx r S (a :: b :: a :: b :: st)) none) none
  | _ => none
noncomputable def rt_iinc (r : ri_R) (S : rt_S) : Option (List rt_S) := match cond (Nat.blt r.2.2.1 20) (ri_nth (rt_lo S) r.2.2.1) none with
  | some (some (.inl x)) => (match rt_add (rt_E S) x (0, r.2.2.2.2, r.2.2.2.2) with
    | none => none
    | some z => (match rt_nm S.2.2.1 z with
      | none => none
      | some q => some [(Nat.add S.1 r.2.1, S.2.1, q.1, rt_lset (rt_lo S) r.2.2.1 (.inl q.2), rt_st S, rt_ov S)]))
  | _ => none
def rt_goto (r : ri_R) (S : rt_S) : Option (List rt_S) := some [(r.2.2.1, S.2)]
/-- a state at a place, with these tags and this stack; none: no such state -/
def rt_opt (S : rt_S) (pc : Nat) (st : List rt_V) (o : Option (List rt_B)) (l : List rt_S) : List rt_S := match o with
  | none => l
  | some E => (pc, S.2.1, (E, rt_R S, rt_L S), rt_lo S, st, rt_ov S) :: l
noncomputable def rt_br (c : Jvm.ClassFile.Cond) (r : ri_R) (S : rt_S) (x y : ri_I) (st : List rt_V) : Option (List rt_S) := some (rt_opt S r.2.2.1 st (rt_ref c (rt_E S) x y) (rt_opt S (Nat.add S.1 r.2.1) st (rt_ref (rt_cn c) (rt_E S) x y) []))
noncomputable def rt_if (c : Jvm.ClassFile.Cond) (r : ri_R) (S : rt_S) : Option (List rt_S) := match rt_st S with
  | .inl x :: st => rt_br c r S x (0, 0, 0) st
  | _ => none
noncomputable def rt_icmp (c : Jvm.ClassFile.Cond) (r : ri_R) (S : rt_S) : Option (List rt_S) := match rt_st S with
  | .inl y :: .inl x :: st => rt_br c r S x y st
  | _ => none
/-- a switch: the cases that may be, from c on; then what else there is -/
noncomputable def rt_tsl (S : rt_S) (x : ri_I) (st : List rt_V) (e : List rt_S) (l : List Int) : Int → List rt_S := List.rec (motive := fun _ => Int → List rt_S) (fun _ => e) (fun o _ ih c => rt_opt S (Int.toNat (Int.add (.ofNat S.1) o)) st (rt_req (rt_E S) x (0, c, c)) (ih (Int.add c 1))) l
noncomputable def rt_lsl (S : rt_S) (x : ri_I) (st : List rt_V) (e : List rt_S) (l : List (Int × Int)) : List rt_S := List.rec (motive := fun _ => List rt_S) e (fun q _ ih => rt_opt S (Int.toNat (Int.add (.ofNat S.1) q.2)) st (rt_req (rt_E S) x (0, q.1, q.1)) ih) l
/-- is it a known number between the two -/
def rt_isin (x : ri_I) (lo hi : Int) : Bool := cond (Nat.beq x.1 0) (cond (rt_ex x) (cond (ri_le lo x.2.1) (ri_le x.2.2 hi) false) false) false
noncomputable def rt_tsw (d lo hi : Int) (offs : Array Int) (S : rt_S) : Option (List rt_S) := match rt_st S with
  | .inl x :: st => cond (ri_lt (Int.sub hi lo) (.ofNat (ri_len offs.toList))) (some (rt_tsl S x st (cond (rt_isin x lo hi) [] [(Int.toNat (Int.add (.ofNat S.1) d), S.2.1, S.2.2.1, rt_lo S, st, rt_ov S)]) offs.toList lo)) none
  | _ => none
noncomputable def rt_lsw (d : Int) (ps : Array (Int × Int)) (S : rt_S) : Option (List rt_S) := match rt_st S with
  | .inl x :: st => some (rt_lsl S x st [(Int.toNat (Int.add (.ofNat S.1) d), S.2.1, S.2.2.1, rt_lo S, st, rt_ov S)] ps.toList)
  | _ => none
/-- what is at a place: by the overlay, or by its type -/
noncomputable def rt_ld (r : ri_R) (S : rt_S) (nm : Nat) (x : ri_I) (T : Option rt_T) (st : List rt_V) : Option (List rt_S) := match cond (rt_ex x) (rt_og (rt_ov S) nm (x.1, x.2.1)) none with
  | some v => rt_nx r S (v :: st)
  | none => (match T with
    | none => none
    | some T => (match rt_vT S.2.2.1 T with
      | (n, v) => some [(Nat.add S.1 r.2.1, S.2.1, n, rt_lo S, v :: st, cond (rt_ex x) (match nm with
        | 0 => rt_ov S
        | Nat.succ _ => (nm, (x.1, x.2.1), v) :: rt_ov S) (rt_ov S))]))
noncomputable def rt_getf (KK : List (List rt_K)) (r : ri_R) (S : rt_S) : Option (List rt_S) := match rt_st S with
  | .inr (.inl q) :: st => (match rt_kd KK S.2.1.1 q.1 with
    | some (.inl o) => cond (Nat.beq o.1 r.2.2.1) (match ri_nth o.2 r.2.2.2.1 with
      | some f => rt_ld r S q.2 (0, .ofNat r.2.2.2.1, .ofNat r.2.2.2.1) (some f.2) st
      | none => none) none
    | _ => none)
  | _ => none
/-- the places where an index may be -/
noncomputable def rt_ix (E : List rt_B) (x : ri_I) (n : Nat) : Option (Nat × Nat) := match rt_abs E x with
  | none => none
  | some a => (match a.1 with
    | .negSucc _ => none
    | .ofNat i => (match a.2 with
      | .negSucc _ => none
      | .ofNat j => cond (Nat.blt j n) (some (i, j)) none))
noncomputable def rt_ald (KK : List (List rt_K)) (t1 t2 : Nat) (r : ri_R) (S : rt_S) : Option (List rt_S) := match rt_st S with
  | .inl x :: .inr (.inl q) :: st => (match rt_kd KK S.2.1.1 q.1 with
    | some (.inr o) => cond (Nat.ble t1 o.1) (cond (Nat.ble o.1 t2) (match rt_ix (rt_E S) x (rt_tot o.2) with
      | some p => rt_ld r S q.2 x (rt_hull (rt_cov o.2 p.1 p.2)) st
      | none => none) none) none
    | _ => none)
  | _ => none
/-- is it of the type -/
noncomputable def rt_is (E : List rt_B) (v : rt_V) (T : rt_T) : Bool := match T with
  | .inl a => (match v with
    | .inl x => (match rt_abs E x with
      | some b => cond (ri_le a.1 b.1) (ri_le b.2 a.2) false
      | none => false)
    | .inr _ => false)
  | .inr (.inl k) => (match v with
    | .inr (.inl q) => Nat.beq q.1 k
    | _ => false)
  | .inr (.inr true) => (match v with
    | .inr (.inr (some _)) => true
    | _ => false)
  | .inr (.inr false) => true
/-- may it be stored at all these places -/
noncomputable def rt_may (E : List rt_B) (v : rt_V) (l : List rt_F) : Bool := List.rec (motive := fun _ => Bool) true (fun f _ ih => cond (Nat.beq f.1 0) (cond (rt_is E v f.2) ih false) false) l
/-- what kind of value it is: 0 an int, 1 a boolean, 2 a reference, 3 a byte, 4 a long -/
noncomputable def rt_fit (E : List rt_B) (t : Nat) (v : rt_V) : Bool := match t with
  | 0 => (match v with
    | .inl _ => true
    | .inr _ => false)
  | 1 => (match v with
    | .inl _ => rt_is E v (.inl (0, 1))
    | .inr _ => false)
  | 2 => (match v with
    | .inr (.inl _) => true
    | _ => false)
  | 3 => (match v with
    | .inl _ => rt_is E v (.inl (-128, 127))
    | .inr _ => false)
  | 4 => (match v with
    | .inr (.inr (some _)) => true
    | _ => false)
  | _ => false
noncomputable def rt_sto (r : ri_R) (S : rt_S) (v : rt_V) (x : ri_I) (q : Nat × Nat) (st : List rt_V) : Option (List rt_S) := match rt_nmV S.2.2.1 v with
  | none => none
  | some p => some [(Nat.add S.1 r.2.1, S.2.1, p.1, rt_lo S, st, cond (rt_ex x) (rt_ost (rt_R S) (rt_ov S) q.2 q.1 (x.1, x.2.1) p.2) (rt_fil (rt_oth (rt_R S) q.1) (rt_ov S)))]
noncomputable def rt_putf (KK : List (List rt_K)) (r : ri_R) (S : rt_S) : Option (List rt_S) := match rt_st S with
  | v :: .inr (.inl q) :: st => (match rt_kd KK S.2.1.1 q.1 with
    | some (.inl o) => cond (Nat.beq o.1 r.2.2.1) (match ri_nth o.2 r.2.2.2.1 with
      | some f => cond (rt_may (rt_E S) v [f]) (cond (rt_fit (rt_E S) (Int.toNat r.2.2.2.2) v) (rt_sto r S v (0, .ofNat r.2.2.2.1, .ofNat r.2.2.2.1) q st) none) none
      | none => none) none
    | _ => none)
  | _ => none
/-- arrays' types and the kinds of their values -/
def rt_ak (t : Nat) : Nat := match t with
  | 0 => 0
  | 1 => 1
  | 2 => 3
  | 3 => 4
  | _ => 9
noncomputable def rt_ast (KK : List (List rt_K)) (t1 t2 : Nat) (r : ri_R) (S : rt_S) : Option (List rt_S) := match rt_st S with
  | v :: .inl x :: .inr (.inl q) :: st => (match rt_kd KK S.2.1.1 q.1 with
    | some (.inr o) => cond (Nat.ble t1 o.1) (cond (Nat.ble o.1 t2) (match rt_ix (rt_E S) x (rt_tot o.2) with
      | some p => cond (rt_may (rt_E S) v (rt_cov o.2 p.1 p.2)) (cond (rt_fit (rt_E S) (rt_ak o.1) v) (rt_sto r S v x q st) none) none
      | none => none) none) none
    | _ => none)
  | _ => none
noncomputable def rt_alen (KK : List (List rt_K)) (r : ri_R) (S : rt_S) : Option (List rt_S) := match rt_st S with
  | .inr (.inl q) :: st => (match rt_kd KK S.2.1.1 q.1 with
    | some (.inr o) => cond (Nat.blt (rt_tot o.2) 2147483648) (rt_nx r S (.inl (0, .ofNat (rt_tot o.2), .ofNat (rt_tot o.2)) :: st)) none
    | _ => none)
  | _ => none
/-- System.arraycopy from 0 to 0, so many as are known; arrays of one segment -/
noncomputable def rt_acp (KK : List (List rt_K)) (r : ri_R) (S : rt_S) : Option (List rt_S) := match rt_st S with
  | .inl n :: .inl dp :: .inr (.inl b) :: .inl sp :: .inr (.inl a) :: st => cond (Nat.ble (ri_len st) 8) (match rt_kd KK S.2.1.1 a.1 with
    | some (.inr (ta, [(na, fa)])) => (match rt_kd KK S.2.1.1 b.1 with
      | some (.inr (tb, [(nb, fb)])) => (match rt_ix (rt_E S) n 100000 with
        | some (i, j) => cond (Nat.beq ta tb) (cond (Nat.ble ta 1) (cond (Nat.beq i j) (cond (Nat.ble j na) (cond (Nat.ble j nb) (match rt_ix (rt_E S) dp 1 with
          | some _ => (match rt_ix (rt_E S) sp 1 with
            | some _ => (match fa.2 with
              | .inl A => (match fb.2 with
                | .inl B => cond (Nat.beq fb.1 0) (cond (ri_le B.1 A.1) (cond (ri_le A.2 B.2) (cond (match ta with
                  | 0 => true
                  | _ => cond (ri_le 0 A.1) (ri_le A.2 1) false) (some [(Nat.add S.1 r.2.1, S.2.1, S.2.2.1, rt_lo S, st, rt_fil (rt_oth (rt_R S) b.1) (rt_ov S))]) none) none) none) none
                | .inr _ => none)
              | .inr _ => none)
            | none => none)
          | none => none) none) none) none) none) none
        | none => none)
      | _ => none)
    | _ => none) none
  | _ => none
noncomputable def rt_mm (f : ri_I → ri_I → Option ri_I) (r : ri_R) (S : rt_S) : Option (List rt_S) := cond (Nat.ble (ri_len (rt_st S)) 8) (rt_bin f r S) none
noncomputable def rt_ms (KK : List (List rt_K)) (r : ri_R) (S : rt_S) : Option (List rt_S) := match r.2.2.2.1 with
  | 0 => rt_acp KK r S
  | 1 => rt_mm (rt_maxf (rt_E S)) r S
  | 2 => rt_mm (rt_minf (rt_E S)) r S
  | 3 => cond (Nat.ble (ri_len (rt_st S)) 8) (rt_un (rt_absf (rt_E S)) r S) none
  | _ => none
noncomputable def rt_step (KK : List (List rt_K)) (r : ri_R) (S : rt_S) : Option (List rt_S) := match r.1 with
  | .iload_n _ => rt_iload r S
  | .iload _ => rt_iload r S
  | .aload_n _ => rt_aload r S
  | .aload _ => rt_aload r S
  | .lload_n _ => rt_lload r S
  | .lload _ => rt_lload r S
  | .istore_n _ => rt_istore r S
  | .istore _ => rt_istore r S
  | .astore_n _ => rt_astore r S
  | .astore _ => rt_astore r S
  | .lstore_n _ => rt_lstore r S
  | .lstore _ => rt_lstore r S
  | .iconst _ => rt_push r S
  | .bipush _ => rt_push r S
  | .sipush _ => rt_push r S
  | .ldc _ => rt_push r S
  | .ldc_w _ => rt_push r S
  | .lconst n => rt_lpush r S (some (.ofNat (n : Nat)))
  | .ldc2_w _ => rt_lpush r S (some r.2.2.2.2)
  | .iadd => rt_bin (rt_add (rt_E S)) r S
  | .isub => rt_bin (rt_sub (rt_E S)) r S
  | .imul => rt_bin (rt_mul (rt_E S)) r S
  | .idiv => rt_bin (rt_div (rt_E S)) r S
  | .irem => rt_bin (rt_rem (rt_E S)) r S
  | .iand => rt_and r S
  | .ior => rt_bin (fun _ _ => some ri_top) r S
  | .ishl => rt_bin (fun _ _ => some ri_top) r S
  | .ishr => rt_bin (fun _ _ => some ri_top) r S
  | .iushr => rt_bin (fun _ _ => some ri_top) r S
  | .ineg => rt_un (rt_neg (rt_E S)) r S
  | .i2b => rt_un (rt_i2b (rt_E S)) r S
  | .i2c => rt_un (fun _ => some ri_top) r S
  | .i2l => rt_i2l r S
  | .ladd => rt_lbin r S
  | .lmul => rt_lbin r S
  | .lor => rt_lbin r S
  | .lshl => rt_lshl r S
  | .lcmp => rt_lcmp r S
  | .dup => rt_dup r S
  | .dup_x1 => rt_dupx1 r S
  | .dup2 => rt_dup2 r S
  | .pop => rt_pop r S
  | .iinc _ _ => rt_iinc r S
  | .goto _ => rt_goto r S
  | .ifCond c _ => rt_if c r S
  | .if_icmp c _ => rt_icmp c r S
  | .tableswitch d lo hi offs => rt_tsw d lo hi offs S
  | .lookupswitch d ps => rt_lsw d ps S
  | .getfield _ => rt_getf KK r S
  | .putfield _ => rt_putf KK r S
  | .iaload => rt_ald KK 0 0 r S
  | .baload => rt_ald KK 1 2 r S
  | .laload => rt_ald KK 3 3 r S
  | .aaload => rt_ald KK 4 7 r S
  | .iastore => rt_ast KK 0 0 r S
  | .bastore => rt_ast KK 1 2 r S
  | .lastore => rt_ast KK 3 3 r S
  | .arraylength => rt_alen KK r S
  | .invokestatic _ => cond (Nat.beq r.2.2.1 2) (rt_ms KK r S) none
  | _ => none
