/-! Runs of the typed interpreter -/
/-- modes: of the caller (by place); the callee's, the callee's last, the caller's behind the call -/
abbrev rt_X : Type := List (List (Nat × Nat × Nat))
noncomputable def rt_mx (MX : rt_X) (g ga gb : Nat) : Option Nat := match ri_nth MX g with
  | none => none
  | some l => List.rec (motive := fun _ => Option Nat) none (fun q _ ih => cond (Nat.beq q.1 ga) (cond (Nat.beq q.2.1 gb) (some q.2.2) ih) ih) l
/-- the first contract that fits -/
noncomputable def rt_pick (MX : rt_X) (CS : List rt_Co) (mj d : Nat) (S : rt_S) (al : List (Option rt_V)) : Option (rt_Co × rt_M) := List.rec (motive := fun _ => Option (rt_Co × rt_M)) none (fun C _ ih => cond (Nat.beq C.1.1 mj) (cond (Nat.ble (Nat.succ C.1.2) d) (match C.2.2.2 with
  | [] => ih
  | P :: _ => (match rt_mx MX S.2.1.1 C.2.1 P.1.1 with
    | none => ih
    | some _ => cond (Nat.beq (ri_len al) (ri_len C.2.2.1.2.1)) (match rt_mt (rt_E S) (rt_ov S) al C.2.2.1.1 C.2.2.1.2.1 C.2.2.1.2.2 with
      | none => ih
      | some mm => some (C, mm)) ih)) ih) ih) CS
noncomputable def rt_posts (KK : List (List rt_K)) (MX : rt_X) (run : rt_S → Bool) (S : rt_S) (ga : Nat) (rest : List rt_V) (rm : List Nat) (Ps : List rt_Po) : Bool := List.rec (motive := fun _ => Bool) true (fun P _ ih => match rt_mx MX S.2.1.1 ga P.1.1 with
  | none => false
  | some g => cond (run (rt_back KK S (Nat.add S.1 3) g rest rm P)) ih false) Ps
noncomputable def rt_nmL (l : List rt_V) : rt_N → Option (rt_N × List rt_V) := List.rec (motive := fun _ => rt_N → Option (rt_N × List rt_V)) (fun n => some (n, [])) (fun v _ ih n => match rt_nmV n v with
  | none => none
  | some q => (match ih q.1 with
    | none => none
    | some p => some (p.1, q.2 :: p.2))) l
noncomputable def rt_pad (n : Nat) : List (Option rt_V) → List (Option rt_V) := Nat.rec (motive := fun _ => List (Option rt_V) → List (Option rt_V)) (fun l => l) (fun _ ih l => match l with
  | [] => none :: ih []
  | a :: r => a :: ih r) n
noncomputable def rt_som (l : List rt_V) : List (Option rt_V) := List.rec (motive := fun _ => List (Option rt_V)) [] (fun v _ ih => some v :: ih) l
noncomputable def rt_drop (n : Nat) : List (Option rt_V) → List (Option rt_V) := Nat.rec (motive := fun _ => List (Option rt_V) → List (Option rt_V)) (fun l => l) (fun _ ih l => match l with
  | [] => []
  | _ :: r => ih r) n
noncomputable def rt_unw (k : Nat) : List (Option rt_V) → Option (List rt_V × List (Option rt_V)) := Nat.rec (motive := fun _ => List (Option rt_V) → Option (List rt_V × List (Option rt_V))) (fun l => some ([], l)) (fun _ ih l => match l with
  | some v :: r => (match ih r with
    | none => none
    | some q => some (v :: q.1, q.2))
  | _ => none) k
/-- behind an inlined call: the caller goes on -/
noncomputable def rt_kont (run : rt_S → Bool) (pc k : Nat) (v : Option rt_V) (S : rt_S) : Bool := match rt_unw k (rt_drop 20 (rt_lo S)) with
  | none => false
  | some q => run (pc, S.2.1, S.2.2.1, q.2, (match v with
    | none => q.1
    | some x => x :: q.1), rt_ov S)
abbrev rt_Rn : Type := Nat → Nat → List Nat → Bool → (rt_S → Bool) → (Option rt_V → rt_S → Bool) → rt_S → Bool
def rt_kf (_ : rt_S) : Bool := false
noncomputable def rt_calI (ih : rt_Rn) (d1 d mi : Nat) (cuts : List Nat) (kc : rt_S → Bool) (kr : Option rt_V → rt_S → Bool) (mj : Nat) (as rest : List rt_V) (S : rt_S) : Bool := match rt_nmL as S.2.2.1 with
  | none => false
  | some p => (match rt_enA p.2 with
    | none => false
    | some al => (match ri_nth mt mj with
      | none => false
      | some w => cond (Nat.ble w.2 20) (cond (Nat.ble (ri_len al) w.2) (ih d1 mj [] true rt_kf (rt_kont (ih d mi cuts false kc kr) (Nat.add S.1 3) (ri_len rest)) (0, S.2.1, p.1, List.append (rt_pad 20 al) (List.append (rt_som rest) (rt_lo S)), [], rt_ov S)) false) false))
noncomputable def rt_calB (KK : List (List rt_K)) (MX : rt_X) (CS : List rt_Co) (ih : rt_Rn) (d1 d mi : Nat) (cuts : List Nat) (kc : rt_S → Bool) (kr : Option rt_V → rt_S → Bool) (mj : Nat) (as rest : List rt_V) (S : rt_S) : Bool := cond (Nat.ble (ri_len rest) 4) (match rt_enA as with
  | none => false
  | some al => (match rt_pick MX CS mj d S al with
    | some q => rt_posts KK MX (ih d mi cuts false kc kr) S q.1.2.1 rest q.2.2.1 q.1.2.2.2
    | none => rt_calI ih d1 d mi cuts kc kr mj as rest S)) false
noncomputable def rt_all (f : rt_S → Bool) (o : Option (List rt_S)) : Bool := match o with
  | none => false
  | some L => List.rec (motive := fun _ => Bool) true (fun S _ ih => cond (f S) ih false) L
noncomputable def rt_cls (i : Instr) : Nat := match i with
  | .ireturn => 1
  | .lreturn => 2
  | .return_ => 3
  | .invokevirtual _ => 4
  | .invokestatic _ => 5
  | _ => 0
noncomputable def rt_reti (kr : Option rt_V → rt_S → Bool) (r : ri_R) (S : rt_S) : Bool := match rt_st S with
  | .inl x :: [] => cond (match r.2.2.1 with
    | 0 => true
    | Nat.succ _ => rt_fit (rt_E S) 1 (.inl x)) (kr (some (.inl x)) S) false
  | _ => false
def rt_retl (kr : Option rt_V → rt_S → Bool) (S : rt_S) : Bool := match rt_st S with
  | .inr (.inr (some t)) :: [] => kr (some (.inr (.inr (some t)))) S
  | _ => false
def rt_retv (kr : Option rt_V → rt_S → Bool) (S : rt_S) : Bool := match rt_st S with
  | [] => kr none S
  | _ => false
noncomputable def rt_calV (KK : List (List rt_K)) (MX : rt_X) (CS : List rt_Co) (ih : rt_Rn) (d mi : Nat) (cuts : List Nat) (kc : rt_S → Bool) (kr : Option rt_V → rt_S → Bool) (r : ri_R) (S : rt_S) : Bool := match d with
  | Nat.succ (Nat.succ d2) => (match rt_take (Int.toNat r.2.2.2.2) (rt_st S) [] with
    | some (.inr (.inl q0) :: as, rest) => (match rt_kd KK S.2.1.1 q0.1 with
      | some (.inl o) => cond (Nat.beq (Nat.add o.1 4) r.2.2.1) (rt_calB KK MX CS ih (Nat.succ d2) d mi cuts kc kr r.2.2.2.1 (.inr (.inl q0) :: as) rest S) false
      | _ => false)
    | _ => false)
  | _ => false
noncomputable def rt_calS (KK : List (List rt_K)) (MX : rt_X) (CS : List rt_Co) (ih : rt_Rn) (d mi : Nat) (cuts : List Nat) (kc : rt_S → Bool) (kr : Option rt_V → rt_S → Bool) (r : ri_R) (S : rt_S) : Bool := match d with
  | Nat.succ (Nat.succ d2) => (match rt_take (Int.toNat r.2.2.2.2) (rt_st S) [] with
    | some q => rt_calB KK MX CS ih (Nat.succ d2) d mi cuts kc kr r.2.2.2.1 q.1 q.2 S
    | none => false)
  | _ => false
noncomputable def rt_bd1 (KK : List (List rt_K)) (MX : rt_X) (CS : List rt_Co) (ih : rt_Rn) (d mi : Nat) (cuts : List Nat) (kc : rt_S → Bool) (kr : Option rt_V → rt_S → Bool) (r : ri_R) (S : rt_S) : Bool := match rt_cls r.1 with
  | 0 => rt_all (ih d mi cuts false kc kr) (rt_step KK r S)
  | 1 => rt_reti kr r S
  | 2 => rt_retl kr S
  | 3 => rt_retv kr S
  | 4 => rt_calV KK MX CS ih d mi cuts kc kr r S
  | _ => cond (Nat.beq r.2.2.1 2) (rt_all (ih d mi cuts false kc kr) (rt_step KK r S)) (rt_calS KK MX CS ih d mi cuts kc kr r S)
noncomputable def rt_bdy (KK : List (List rt_K)) (MX : rt_X) (CS : List rt_Co) (ih : rt_Rn) (d mi : Nat) (cuts : List Nat) (kc : rt_S → Bool) (kr : Option rt_V → rt_S → Bool) (S : rt_S) : Bool := match ri_fetch mt mi S.1 with
  | none => false
  | some r => rt_bd1 KK MX CS ih d mi cuts kc kr r S
/-- at a place of a method a local is split into its numbers -/
noncomputable def rt_fd3 (SP : List (Nat × Nat × Nat)) (mi pc : Nat) : Option Nat := List.rec (motive := fun _ => Option Nat) none (fun q _ ih => cond (Nat.beq q.1 mi) (cond (Nat.beq q.2.1 pc) (some q.2.2) ih) ih) SP
noncomputable def rt_spn (S : rt_S) (k : Nat) (x : ri_I) (n : Nat) : Int → List rt_S := Nat.rec (motive := fun _ => Int → List rt_S) (fun _ => []) (fun _ ih c => match rt_req (rt_E S) x (0, c, c) with
  | none => ih (Int.add c 1)
  | some E => (S.1, S.2.1, (E, S.2.2.1.2), ri_set (some (.inl (0, c, c))) (rt_lo S) k, rt_st S, rt_ov S) :: ih (Int.add c 1)) n
noncomputable def rt_spl (k : Nat) (S : rt_S) : Option (List rt_S) := match ri_nth (rt_lo S) k with
  | some (some (.inl x)) => (match rt_abs (rt_E S) x with
    | some b => some (rt_spn S k x (Int.toNat (Int.add (Int.sub b.2 b.1) 1)) b.1)
    | none => none)
  | _ => none
noncomputable def rt_memN (l : List Nat) (k : Nat) : Bool := List.rec (motive := fun _ => Bool) false (fun a _ ih => cond (Nat.beq a k) true ih) l
/-- splits; places that are gone past by hand: an int is pushed -/
abbrev rt_SP : Type := List (Nat × Nat × Nat) × List (Nat × Nat × Nat)
noncomputable def rt_mac0 (KK : List (List rt_K)) (run : rt_S → Bool) (S : rt_S) : Bool := match rt_lo S with
  | some (.inr (.inl q)) :: _ => (match rt_kd KK S.2.1.1 q.1 with
    | some (.inl o) => cond (Nat.beq o.1 4) (match ri_nth o.2 5 with
      | some f => (match f.2 with
        | .inl _ => run (171, S.2.1, S.2.2.1, rt_lo S, .inl ri_top :: rt_st S, rt_ov S)
        | .inr _ => false)
      | none => false) false
    | _ => false)
  | _ => false
noncomputable def rt_mac2 (run : rt_S → Bool) (S : rt_S) : Bool := match ri_nth (rt_lo S) 5 with
  | some (some (.inl x)) => (match rt_abs (rt_E S) x with
    | some a => cond (ri_le 0 a.1) (cond (ri_le a.2 150) (run (24, S.2.1, S.2.2.1, rt_lo S, .inl ri_top :: rt_st S, rt_ov S)) false) false
    | none => false)
  | _ => false
noncomputable def rt_mac (KK : List (List rt_K)) (run : rt_S → Bool) (d k : Nat) (S : rt_S) : Bool := cond (Nat.ble 12 d) (cond (Nat.ble (ri_len (rt_st S)) 2) (match k with
  | 0 => rt_mac0 KK run S
  | 1 => run (14, S.2.1, S.2.2.1, rt_lo S, .inl (0, 151, 151) :: rt_st S, rt_ov S)
  | _ => rt_mac2 run S) false) false
noncomputable def rt_run (KK : List (List rt_K)) (MX : rt_X) (CS : List rt_Co) (SP : rt_SP) (n : Nat) : rt_Rn := Nat.rec (motive := fun _ => rt_Rn) (fun _ _ _ _ _ _ _ => false) (fun _ ih d mi cuts first kc kr S => cond (cond first false (rt_memN cuts S.1)) (kc S) (match rt_fd3 SP.2 mi S.1 with
  | some nx => rt_mac KK (ih d mi cuts false kc kr) d nx S
  | none => (match rt_fd3 SP.1 mi S.1 with
    | none => rt_bdy KK MX CS ih d mi cuts kc kr S
    | some k => rt_all (rt_bdy KK MX CS ih d mi cuts kc kr) (rt_spl k S)))) n
section RT60
variable {l : Launch} {D : va_G} {KK : List (List rt_K)} {κ : Nat → ClassId} {K ad : List Nat} {Φ : Nat → Int → va_W → Prop} {MX : rt_X}
def rt_MXok (KK : List (List rt_K)) (κ : Nat → ClassId) (K ad : List Nat) (Φ : Nat → Int → va_W → Prop) (MX : rt_X) : Prop := ∀ (g ga gb g2 : Nat), rt_mx MX g ga gb = some g2 → (∀ (ws0 : va_W) (t0 : Int) (s : Nat) (w : va_W), rt_hp KK κ K ad ws0 Φ t0 g s w → rt_hp KK κ K ad w Φ (t0 - s) ga 0 w) ∧ (∀ (ws0 : va_W) (t0 : Int) (s : Nat) (w : va_W), rt_hp KK κ K ad ws0 Φ t0 g s w → ∀ (i k q : Nat) (kd : rt_K) (e : va_E), K[i]? = some k → rt_kd KK gb k = some kd → w[i]? = some (q, e) → rt_shp κ kd e) ∧ (∀ (ws0 : va_W) (t0 : Int) (s s' : Nat) (w w' : va_W), rt_hp KK κ K ad ws0 Φ t0 g s w → rt_hp KK κ K ad w Φ (t0 - s) gb s' w' → rt_hp KK κ K ad ws0 Φ t0 g2 (s + s') w')
/-- a run is sound -/
def rt_Snd (l : Launch) (D : va_G) (KK : List (List rt_K)) (κ : Nat → ClassId) (K ad : List Nat) (Φ : Nat → Int → va_W → Prop) (run : rt_Rn) : Prop := ∀ (d mi : Nat) (cuts : List Nat) (first : Bool) (kc : rt_S → Bool) (kr : Option rt_V → rt_S → Bool) (S : rt_S), run d mi cuts first kc kr S = true → 1 ≤ d → ∀ (y : MethodName) (cc : ByteArray) (nL : Nat) (ret : Option FieldType), mT[mi]? = some (y, cc, nL, ret) → nL ≤ 20 → ∀ (p : Program) (e : Env) (s : State) (m : MethodId) (args : Array Value) (below : List Frame) (meth : Method) (c : Code) (ws : va_W), rc_Bd p s m args meth c y cc nL ret κ D ws → ∀ (Qv : Option Value → va_W → Prop), ri_ad ws = ad → ∀ (ws0 : va_W) (t0 : Int) (a : rc_C), rt_rl KK κ K ad ws0 Φ t0 S a → (∀ (S' : rt_S) (b : rc_C), kc S' = true → rt_rl KK κ K ad ws0 Φ t0 S' b → rc_gh a b → rc_AB p l e s m args below meth c nL D ws (MQ below (rc_Q D ws s.heap.size Qv) args s 0 0 (va_A ws s.heap.size)) d b) → (∀ (v : Option rt_V) (S' : rt_S) (b : rc_C) (ov : Option Value), kr v S' = true → rt_st S' = v.toList → b.2.2.1 = ov.toList → rt_rl KK κ K ad ws0 Φ t0 S' b → rc_gh a b → Qv ov b.2.2.2) → rc_AB p l e s m args below meth c nL D ws (MQ below (rc_Q D ws s.heap.size Qv) args s 0 0 (va_A ws s.heap.size)) d a
/-- the places that are gone past by hand -/
def rt_MC1 (k : Nat) (AB : rc_C → Prop) (a : rc_C) : Prop := match k with
  | 0 => (∃ (q k : Nat) (vs : List Value) (z : Int32), a.2.1[0]? = some (some (.ref q)) ∧ a.2.2.2[k]? = some (q, .inr (4, vs)) ∧ vs[5]? = some (.int z)) → (∀ z : Int32, AB (171, a.2.1, .int z :: a.2.2.1, a.2.2.2)) → AB a
  | 1 => AB (14, a.2.1, .int 151 :: a.2.2.1, a.2.2.2) → AB a
  | _ => (∃ z : Int32, a.2.1[5]? = some (some (.int z)) ∧ 0 ≤ z.toInt ∧ z.toInt ≤ 150) → (∀ z : Int32, AB (24, a.2.1, .int z :: a.2.2.1, a.2.2.2)) → AB a
def rt_MCok (l : Launch) (D : va_G) (κ : Nat → ClassId) (MC : List (Nat × Nat × Nat)) : Prop := ∀ (mi pc k : Nat), rt_fd3 MC mi pc = some k → ∀ (y : MethodName) (cc : ByteArray) (nL : Nat) (ret : Option FieldType), mT[mi]? = some (y, cc, nL, ret) → ∀ (p : Program) (e : Env) (s : State) (m : MethodId) (args : Array Value) (below : List Frame) (meth : Method) (c : Code) (ws : va_W), rc_Bd p s m args meth c y cc nL ret κ D ws → ∀ (Q : State → Prop) (d : Nat) (a : rc_C), 12 ≤ d → a.1 = pc → a.2.2.1.length ≤ 2 → rt_MC1 k (rc_AB p l e s m args below meth c nL D ws Q d) a
theorem rt_cls_1 {i : Instr} (h : rt_cls i = 1) : i = .ireturn := by
  cases i <;> first | rfl | cases h
theorem rt_cls_2 {i : Instr} (h : rt_cls i = 2) : i = .lreturn := by
  cases i <;> first | rfl | cases h
theorem rt_cls_3 {i : Instr} (h : rt_cls i = 3) : i = .return_ := by
  cases i <;> first | rfl | cases h
theorem rt_cls_4 {i : Instr} (h : rt_cls i = 4) : ∃ j, i = .invokevirtual j := by
  cases i <;> first | exact ⟨_, rfl⟩ | cases h
theorem rt_cls_5 {i : Instr} {k : Nat} (h : rt_cls i = k + 5) : ∃ j, i = .invokestatic j := by
  cases i <;> first | exact ⟨_, rfl⟩ | cases h
theorem rt_all_ok {f : rt_S → Bool} {o : Option (List rt_S)} (h : rt_all f o = true) : ∃ L, o = some L ∧ ∀ S ∈ L, f S = true := by
  cases o with
  | none => cases h
  | some L =>
    refine ⟨L, rfl, ?_⟩
    induction L with
    | nil => intro S hS; cases hS
    | cons S L ih =>
      have h : cond (f S) (rt_all f (some L)) false = true := h
      obtain ⟨h1, h2⟩ := rt_cnd h
      intro S' hS'
      rcases List.mem_cons.mp hS' with rfl | hS'
      · exact h1
      · exact ih h2 S' hS'
theorem rt_pick_ok {mj d : Nat} {S : rt_S} {al : List (Option rt_V)} {q : rt_Co × rt_M} : ∀ {CS : List rt_Co}, rt_pick MX CS mj d S al = some q → q.1 ∈ CS ∧ q.1.1.1 = mj ∧ q.1.1.2 + 1 ≤ d ∧ (∃ P ∈ q.1.2.2.2, ∃ g, rt_mx MX S.2.1.1 q.1.2.1 P.1.1 = some g) ∧ rt_mt (rt_E S) (rt_ov S) al q.1.2.2.1.1 q.1.2.2.1.2.1 q.1.2.2.1.2.2 = some q.2 ∧ al.length = q.1.2.2.1.2.1.length := by
  intro CS
  induction CS with
  | nil => intro h; cases h
  | cons C CS ih =>
    intro h
    have h : cond (Nat.beq C.1.1 mj) (cond (Nat.ble (Nat.succ C.1.2) d) (match (generalizing := false) C.2.2.2 with
      | [] => rt_pick MX CS mj d S al
      | P :: _ => (match (generalizing := false) rt_mx MX S.2.1.1 C.2.1 P.1.1 with
        | none => rt_pick MX CS mj d S al
        | some _ => cond (Nat.beq (ri_len al) (ri_len C.2.2.1.2.1)) (match (generalizing := false) rt_mt (rt_E S) (rt_ov S) al C.2.2.1.1 C.2.2.1.2.1 C.2.2.1.2.2 with
          | none => rt_pick MX CS mj d S al
          | some mm => some (C, mm)) (rt_pick MX CS mj d S al))) (rt_pick MX CS mj d S al)) (rt_pick MX CS mj d S al) = some q := h
    have tl : rt_pick MX CS mj d S al = some q → _ := fun g => by
      obtain ⟨h1, h2⟩ := ih g
      exact (⟨List.mem_cons_of_mem _ h1, h2⟩ : q.1 ∈ C :: CS ∧ q.1.1.1 = mj ∧ q.1.1.2 + 1 ≤ d ∧ (∃ P ∈ q.1.2.2.2, ∃ g, rt_mx MX S.2.1.1 q.1.2.1 P.1.1 = some g) ∧ rt_mt (rt_E S) (rt_ov S) al q.1.2.2.1.1 q.1.2.2.1.2.1 q.1.2.2.1.2.2 = some q.2 ∧ al.length = q.1.2.2.1.2.1.length)
    cases c1 : Nat.beq C.1.1 mj with
    | false =>
      rw [c1] at h
      exact tl h
    | true =>
      rw [c1] at h
      cases c2 : Nat.ble (Nat.succ C.1.2) d with
      | false =>
        rw [c2] at h
        exact tl h
      | true =>
        rw [c2] at h
        cases hP : C.2.2.2 with
        | nil =>
          rw [hP] at h
          exact tl h
        | cons P Ps =>
          rw [hP] at h
          have h : (match (generalizing := false) rt_mx MX S.2.1.1 C.2.1 P.1.1 with
            | none => rt_pick MX CS mj d S al
            | some _ => cond (Nat.beq (ri_len al) (ri_len C.2.2.1.2.1)) (match (generalizing := false) rt_mt (rt_E S) (rt_ov S) al C.2.2.1.1 C.2.2.1.2.1 C.2.2.1.2.2 with
              | none => rt_pick MX CS mj d S al
              | some mm => some (C, mm)) (rt_pick MX CS mj d S al)) = some q := h
          cases hx : rt_mx MX S.2.1.1 C.2.1 P.1.1 with
          | none =>
            rw [hx] at h
            exact tl h
          | some g =>
            rw [hx] at h
            have h : cond (Nat.beq (ri_len al) (ri_len C.2.2.1.2.1)) (match (generalizing := false) rt_mt (rt_E S) (rt_ov S) al C.2.2.1.1 C.2.2.1.2.1 C.2.2.1.2.2 with
              | none => rt_pick MX CS mj d S al
              | some mm => some (C, mm)) (rt_pick MX CS mj d S al) = some q := h
            cases c3 : Nat.beq (ri_len al) (ri_len C.2.2.1.2.1) with
            | false =>
              rw [c3] at h
              exact tl h
            | true =>
              rw [c3, cond_true] at h
              cases hm : rt_mt (rt_E S) (rt_ov S) al C.2.2.1.1 C.2.2.1.2.1 C.2.2.1.2.2 with
              | none =>
                rw [hm] at h
                exact tl h
              | some mm =>
                rw [hm] at h
                cases h
                have c3 := Nat.eq_of_beq_eq_true c3
                rw [ri_len_eq, ri_len_eq] at c3
                exact ⟨List.mem_cons_self, Nat.eq_of_beq_eq_true c1, Nat.le_of_ble_eq_true c2, ⟨P, by rw [hP]; exact List.mem_cons_self, g, hx⟩, hm, c3⟩
theorem rt_posts_ok {run : rt_S → Bool} {S : rt_S} {ga : Nat} {rest : List rt_V} {rm : List Nat} : ∀ {Ps : List rt_Po}, rt_posts KK MX run S ga rest rm Ps = true → ∀ P ∈ Ps, ∃ g, rt_mx MX S.2.1.1 ga P.1.1 = some g ∧ run (rt_back KK S (S.1 + 3) g rest rm P) = true := by
  intro Ps
  induction Ps with
  | nil => intro _ P hP; cases hP
  | cons P Ps ih =>
    intro h
    have h : (match (generalizing := false) rt_mx MX S.2.1.1 ga P.1.1 with
      | none => false
      | some g => cond (run (rt_back KK S (Nat.add S.1 3) g rest rm P)) (rt_posts KK MX run S ga rest rm Ps) false) = true := h
    cases hx : rt_mx MX S.2.1.1 ga P.1.1 with
    | none => rw [hx] at h; cases h
    | some g =>
      rw [hx] at h
      obtain ⟨h1, h2⟩ := rt_cnd h
      intro P' hP'
      rcases List.mem_cons.mp hP' with rfl | hP'
      · exact ⟨g, hx, h1⟩
      · exact ih h2 P' hP'
theorem rt_nmL_ok : ∀ {as : List rt_V} {n : rt_N} {q : rt_N × List rt_V} {τ : List Int} {ν : List Nat} {lm : List Int64} {vs : List Value}, rt_nmL as n = some q → rt_okN K ad n τ ν lm → rt_gS τ ν lm K ad as vs → ∃ τ', τ <+: τ' ∧ rt_okN K ad q.1 τ' ν lm ∧ rt_gS τ' ν lm K ad q.2 vs := by
  intro as
  induction as with
  | nil =>
    intro n q τ ν lm vs h hN hs
    cases h
    exact ⟨τ, List.prefix_refl _, hN, hs⟩
  | cons a as ih =>
    intro n q τ ν lm vs h hN hs
    have h : (match (generalizing := false) rt_nmV n a with
      | none => none
      | some q => (match (generalizing := false) rt_nmL as q.1 with
        | none => none
        | some p => some (p.1, q.2 :: p.2))) = some q := h
    cases h1 : rt_nmV n a with
    | none => rw [h1] at h; cases h
    | some q1 =>
      rw [h1] at h
      have h : (match (generalizing := false) rt_nmL as q1.1 with
        | none => none
        | some p => some (p.1, q1.2 :: p.2)) = some q := h
      cases h2 : rt_nmL as q1.1 with
      | none => rw [h2] at h; cases h
      | some p =>
        rw [h2] at h
        cases h
        obtain ⟨w, vs', rfl, gv, hs'⟩ := rt_gS_cons hs
        obtain ⟨τ1, e1, e2, e3, -⟩ := rt_nmV_ok hN h1 gv
        obtain ⟨τ2, f1, f2, f3⟩ := ih h2 e2 (rt_gS_mono e1 (List.prefix_refl _) (List.prefix_refl _) hs')
        exact ⟨τ2, e1.trans f1, f2, rt_gV_mono f1 (List.prefix_refl _) (List.prefix_refl _) e3, f3⟩
/-- a list padded with nothing -/
def rc_pad (n : Nat) (l : List (Option Value)) : List (Option Value) := l ++ List.replicate (n - l.length) none
theorem rt_pad_eq : ∀ (n : Nat) (l : List (Option rt_V)), rt_pad n l = l ++ List.replicate (n - l.length) none
  | 0, l => by
    show l = _
    simp
  | n + 1, [] => by
    show none :: rt_pad n [] = _
    rw [rt_pad_eq n []]
    simp [List.replicate_succ]
  | n + 1, a :: r => by
    show a :: rt_pad n r = _
    rw [rt_pad_eq n r]
    simp
theorem rt_som_eq : ∀ (l : List rt_V), rt_som l = l.map some
  | [] => rfl
  | a :: r => by
    show some a :: rt_som r = _
    rw [rt_som_eq r]
    rfl
theorem rt_drop_eq : ∀ (n : Nat) (l : List (Option rt_V)), rt_drop n l = l.drop n
  | 0, l => rfl
  | n + 1, [] => rfl
  | n + 1, a :: r => rt_drop_eq n r
theorem rt_unw_ok : ∀ {k : Nat} {l : List (Option rt_V)} {q : List rt_V × List (Option rt_V)}, rt_unw k l = some q → q.1.length = k ∧ l = q.1.map some ++ q.2
  | 0, l, q, h => by
    cases h
    exact ⟨rfl, rfl⟩
  | k + 1, [], q, h => by cases h
  | k + 1, none :: r, q, h => by cases h
  | k + 1, some v :: r, q, h => by
    have h : (match (generalizing := false) rt_unw k r with
      | none => none
      | some q => some (v :: q.1, q.2)) = some q := h
    cases h1 : rt_unw k r with
    | none => rw [h1] at h; cases h
    | some p =>
      rw [h1] at h
      cases h
      obtain ⟨e1, e2⟩ := rt_unw_ok h1
      exact ⟨by simp [e1], by rw [e2]; rfl⟩
end RT60
