/-! A step of the interpreter is a step of the machine -/
def gU : List Cond := lw_tbl.filter goodWord
theorem gU_of {w : Cond} (h : w ∈ lw_tbl) (g : goodWord w = true) : w ∈ gU := List.mem_filter.mpr ⟨h, g⟩
theorem gU_good : GoodIn lw_tbl gU := fun w h => ⟨(List.mem_filter.mp h).1, good_of_word (List.mem_filter.mp h).2⟩
/-- the links to nest mates -/
def ri_nests : List (String × Nat × MethodName × String) := [("CableStreet", 19, ⟨"CableStreet$Reader", "<init>", "()V"⟩, "CableStreet"), ("CableStreet", 51, ⟨"CableStreet$Machine", "<init>", "()V"⟩, "CableStreet"), ("CableStreet", 58, ⟨"CableStreet$Forecast", "<init>", "()V"⟩, "CableStreet"), ("CableStreet", 65, ⟨"CableStreet$Logs", "<init>", "()V"⟩, "CableStreet"), ("CableStreet$Forecast", 11, ⟨"CableStreet$Machine", "<init>", "()V"⟩, "CableStreet"), ("CableStreet$Plan", 46, ⟨"CableStreet$Crosses", "<init>", "()V"⟩, "CableStreet"), ("CableStreet$Plan", 51, ⟨"CableStreet$Rope", "<init>", "()V"⟩, "CableStreet"), ("CableStreet$Reader", 11, ⟨"CableStreet$Lexer", "<init>", "()V"⟩, "CableStreet"), ("CableStreet$State", 30, ⟨"CableStreet$Events", "<init>", "()V"⟩, "CableStreet"), ("CableStreet$State", 35, ⟨"CableStreet$Car", "<init>", "()V"⟩, "CableStreet")]
/-- what isn't handed on as words -/
def ri_N (U : State) : Prop := (∀ q ∈ ri_nests, va_Nw (.methodLinkNest q.1 q.2.1 q.2.2.1 q.2.2.2) U) ∧ va_AO RX9 U ∧ va_AO RX0 U ∧ va_AO RX10 U ∧ (Cond.arrayOver (.array .int)).before #[] U = true
theorem ri_N_warm {s U : State} (hW : s.WarmedH U.vm) (h : ri_N s) : ri_N U := ⟨fun q hq => va_Nw.warmM hW (h.1 q hq), h.2.1.moved hW.alike, h.2.2.1.moved hW.alike, h.2.2.2.1.moved hW.alike, over_moved hW.alike h.2.2.2.2⟩
theorem ri_N_same {s U : State} (hvm : s.vm = U.vm) (h : ri_N s) : ri_N U := ⟨fun q hq => va_Nw.same rfl hvm (h.1 q hq), h.2.1.moved (hvm ▸ Vm.Alike.refl s.vm), h.2.2.1.moved (hvm ▸ Vm.Alike.refl s.vm), h.2.2.2.1.moved (hvm ▸ Vm.Alike.refl s.vm), over_moved (hvm ▸ Vm.Alike.refl s.vm) h.2.2.2.2⟩
def ri_tys (κ : Nat → ClassId) : List (ClassId × FieldType) := [(κ 0, .int), (κ 1, .boolean), (κ 2, .byte), (κ 3, .long), (κ 4, .object RX9), (κ 5, .object RX0), (κ 6, .object RX10), (κ 7, .array .int)]
def ri_ty (t : Nat) : FieldType := match t with
  | 0 => .int
  | 1 => .boolean
  | 2 => .byte
  | 3 => .long
  | 4 => .object RX9
  | 5 => .object RX0
  | 6 => .object RX10
  | _ => .array .int
theorem ri_tys_at (κ : Nat → ClassId) {t : Nat} (h : t ≤ 7) : (ri_tys κ)[t]? = some (κ t, ri_ty t) := by
  rcases t with _ | _ | _ | _ | _ | _ | _ | _ | t
  all_goals first | rfl | omega
/-- the kinds of fields: 0 an int, 1 a boolean, 2 a reference -/
def ri_fty (v : Int) (ty : FieldType) : Prop := (v = 0 ∧ ty = .int) ∨ (v = 1 ∧ ty = .boolean) ∨ (v = 2 ∧ ((∃ C, ty = .object C) ∨ ∃ t, ty = .array t)) ∨ (v = 4 ∧ ty = .long)
/-- the classes' tables, their fields' words -/
def ri_cls (C : String) (T : u_T) (N : Nat) : Prop := (∀ w ∈ u_ws C T N, w ∈ gU) ∧ ∃ ty : Nat → FieldType, (∀ k, k < N → parseFieldDescriptor (T k).2.2.1 = some (ty k)) ∧ (∀ a, a < N → ∀ b, b < N → a ≠ b → (T a).2.1 ≠ (T b).2.1)
section RI8
variable {p : Program} {l : Launch} {e : Env} {R : Room} {s : State} {m : MethodId} {args : Array Value} {below : List Frame} {meth : Method} {c : Code} {cc : ByteArray} {nL n0 z0 : Nat} {τ : Nat → Int} {κ : Nat → ClassId} {D : va_G} {A : Nat → Prop} {H0 : Heap} {ad0 : List Nat} {Q : State → Prop} {own : String} {E : ri_E} {r : ri_R} {S : ri_S} {L : List ri_S}
/-- from every state of the machine that this state of the interpreter describes -/
def ri_At (p : Program) (l : Launch) (e : Env) (R : Room) (s : State) (m : MethodId) (args : Array Value) (below : List Frame) (meth : Method) (c : Code) (nL n0 z0 : Nat) (τ : Nat → Int) (κ : Nat → ClassId) (D : va_G) (A : Nat → Prop) (H0 : Heap) (ad0 : List Nat) (Q : State → Prop) (S : ri_S) : Prop :=
  ∀ (ws : va_W) (H : Heap) (locs : List Loc) (ls : Array Slot) (st : List Value) (cells slots : Nat), ri_gH τ κ S.2.2.2.1 ws → va_P D vwCl ws H → va_D A ws → va_S A H0 H locs → ri_gL τ (ri_ad ws) S.2.1 nL ls → ri_gS τ (ri_ad ws) S.2.2.1 st → ad0 <+: ri_ad ws → cells + n0 = S.2.2.2.2.1 → slots + z0 = S.2.2.2.2.2 → W p l e R s m args below meth c H locs cells slots Q (F0 m S.1 ls st)
/-- an instruction that moves values between locals and stack -/
theorem rs_iload (hi : ∀ {H : Heap} {locs : List Loc} {cells slots : Nat} {ls : Array Slot} {rest : List Value} {x : Int32}, ls[r.2.2.1]? = some (.val (.int x)) → W p l e R s m args below meth c H locs cells slots Q (F0 m (S.1 + r.2.1) ls (.int x :: rest)) → W p l e R s m args below meth c H locs cells slots Q (F0 m S.1 ls rest)) (h : ri_iload r S = some L) (k : ∀ S' ∈ L, ri_At p l e R s m args below meth c nL n0 z0 τ κ D A H0 ad0 Q S') : ri_At p l e R s m args below meth c nL n0 z0 τ κ D A H0 ad0 Q S := by
  unfold ri_iload at h
  rw [ri_nth_eq] at h
  cases hx : S.2.1[r.2.2.1]? with
  | none => rw [hx] at h; cases h
  | some o =>
    rw [hx] at h
    rcases o with _ | x | x
    · cases h
    · cases h
      intro ws H locs ls st cells slots hH hP hD hS hL hst had hc hz
      obtain ⟨v, g1, z, rfl, g2⟩ := ri_gL_get hL hx
      exact hi g1 (k _ (List.mem_singleton.mpr rfl) ws H locs ls _ cells slots hH hP hD hS hL ⟨⟨z, rfl, g2⟩, hst⟩ had hc hz)
    · cases h
theorem rs_aload (hi : ∀ {H : Heap} {locs : List Loc} {cells slots : Nat} {ls : Array Slot} {rest : List Value} {x : Nat}, ls[r.2.2.1]? = some (.val (.ref x)) → W p l e R s m args below meth c H locs cells slots Q (F0 m (S.1 + r.2.1) ls (.ref x :: rest)) → W p l e R s m args below meth c H locs cells slots Q (F0 m S.1 ls rest)) (hj : ∀ {H : Heap} {locs : List Loc} {cells slots : Nat} {ls : Array Slot} {rest : List Value}, ls[r.2.2.1]? = some (.val .null) → W p l e R s m args below meth c H locs cells slots Q (F0 m (S.1 + r.2.1) ls (.null :: rest)) → W p l e R s m args below meth c H locs cells slots Q (F0 m S.1 ls rest)) (h : ri_aload r S = some L) (k : ∀ S' ∈ L, ri_At p l e R s m args below meth c nL n0 z0 τ κ D A H0 ad0 Q S') : ri_At p l e R s m args below meth c nL n0 z0 τ κ D A H0 ad0 Q S := by
  unfold ri_aload at h
  rw [ri_nth_eq] at h
  cases hx : S.2.1[r.2.2.1]? with
  | none => rw [hx] at h; cases h
  | some o =>
    rw [hx] at h
    rcases o with _ | x | x | x
    · cases h
    · cases h
    · cases h
      intro ws H locs ls st cells slots hH hP hD hS hL hst had hc hz
      obtain ⟨v, g1, g2⟩ := ri_gL_get hL hx
      have kk := k _ (List.mem_singleton.mpr rfl) ws H locs ls (v :: st) cells slots hH hP hD hS hL ⟨g2, hst⟩ had hc hz
      cases x with
      | none =>
        cases g2
        exact hj g1 kk
      | some y =>
        obtain ⟨q, -, rfl⟩ := g2
        exact hi g1 kk
    · cases h
theorem rs_istore (hn : r.2.2.1 < nL) (hi : ∀ {H : Heap} {locs : List Loc} {cells slots : Nat} {ls : Array Slot} {rest : List Value} {x : Int32} {lv lv' : List (Nat × Value)}, lv_has ls nL lv → (r.2.2.1, Value.int x) :: lv.filter (fun q => !(q.1 == r.2.2.1) && !(q.1 + 1 == r.2.2.1 && q.2.category == 2)) = lv' → (∀ ls' : Array Slot, lv_has ls' nL lv' → W p l e R s m args below meth c H locs cells slots Q (F0 m (S.1 + r.2.1) ls' rest)) → W p l e R s m args below meth c H locs cells slots Q (F0 m S.1 ls (.int x :: rest))) (h : ri_istore r S = some L) (k : ∀ S' ∈ L, ri_At p l e R s m args below meth c nL n0 z0 τ κ D A H0 ad0 Q S') : ri_At p l e R s m args below meth c nL n0 z0 τ κ D A H0 ad0 Q S := by
  unfold ri_istore at h
  obtain ⟨pc, lo, st0, hp, N, Z⟩ := S
  rcases st0 with _ | ⟨x | x | x, st0⟩
  · cases h
  · cases h
    intro ws H locs ls st cells slots hH hP hD hS hL hst had hc hz
    have hqs := hst
    clear hst
    obtain ⟨v, st, rfl, ⟨z, rfl, g2⟩, hst⟩ := ri_gS_cons hqs
    obtain ⟨lv, l1, l2⟩ := hL
    refine hi l1 rfl (fun ls' hl' => ?_)
    refine k _ (List.mem_singleton.mpr rfl) ws H locs ls' st cells slots hH hP hD hS ?_ hst had hc hz
    show ri_gL τ (ri_ad ws) (ri_set _ lo _) nL ls'
    rw [ri_set_eq]
    exact ri_gL_set l2 (a := .inl x) ⟨z, rfl, g2⟩ rfl hl'
  · cases h
  · cases h
theorem rs_astore (hn : r.2.2.1 < nL) (hi : ∀ {H : Heap} {locs : List Loc} {cells slots : Nat} {ls : Array Slot} {rest : List Value} {x : Nat} {lv lv' : List (Nat × Value)}, lv_has ls nL lv → (r.2.2.1, Value.ref x) :: lv.filter (fun q => !(q.1 == r.2.2.1) && !(q.1 + 1 == r.2.2.1 && q.2.category == 2)) = lv' → (∀ ls' : Array Slot, lv_has ls' nL lv' → W p l e R s m args below meth c H locs cells slots Q (F0 m (S.1 + r.2.1) ls' rest)) → W p l e R s m args below meth c H locs cells slots Q (F0 m S.1 ls (.ref x :: rest)))
    (hj : ∀ {H : Heap} {locs : List Loc} {cells slots : Nat} {ls : Array Slot} {rest : List Value} {lv lv' : List (Nat × Value)}, lv_has ls nL lv → (r.2.2.1, Value.null) :: lv.filter (fun q => !(q.1 == r.2.2.1) && !(q.1 + 1 == r.2.2.1 && q.2.category == 2)) = lv' → (∀ ls' : Array Slot, lv_has ls' nL lv' → W p l e R s m args below meth c H locs cells slots Q (F0 m (S.1 + r.2.1) ls' rest)) → W p l e R s m args below meth c H locs cells slots Q (F0 m S.1 ls (.null :: rest))) (h : ri_astore r S = some L) (k : ∀ S' ∈ L, ri_At p l e R s m args below meth c nL n0 z0 τ κ D A H0 ad0 Q S') : ri_At p l e R s m args below meth c nL n0 z0 τ κ D A H0 ad0 Q S := by
  unfold ri_astore at h
  obtain ⟨pc, lo, st0, hp, N, Z⟩ := S
  rcases st0 with _ | ⟨x | x | x, st0⟩
  · cases h
  · cases h
  · cases h
    intro ws H locs ls st cells slots hH hP hD hS hL hst had hc hz
    have hqs := hst
    clear hst
    obtain ⟨v, st, rfl, g2, hst⟩ := ri_gS_cons hqs
    obtain ⟨lv, l1, l2⟩ := hL
    have fin : ∀ ls' : Array Slot, lv_has ls' nL ((r.2.2.1, v) :: lv.filter (fun q => !(q.1 == r.2.2.1) && !(q.1 + 1 == r.2.2.1 && q.2.category == 2))) → W p l e R s m args below meth c H locs cells slots Q (F0 m (pc + r.2.1) ls' st) := fun ls' hl' => by
      refine k _ (List.mem_singleton.mpr rfl) ws H locs ls' st cells slots hH hP hD hS ?_ hst had hc hz
      show ri_gL τ (ri_ad ws) (ri_set _ lo _) nL ls'
      rw [ri_set_eq]
      exact ri_gL_set l2 g2 (ri_gV_cat g2 rfl) hl'
    cases x with
    | none =>
      cases g2
      exact hj l1 rfl fin
    | some y =>
      obtain ⟨q, -, rfl⟩ := g2
      exact hi l1 rfl fin
  · cases h
theorem rs_push (hi : ∃ z : Int32, z.toInt = r.2.2.2.2 ∧ ∀ {H : Heap} {locs : List Loc} {cells slots : Nat} {ls : Array Slot} {rest : List Value}, W p l e R s m args below meth c H locs cells slots Q (F0 m (S.1 + r.2.1) ls (.int z :: rest)) → W p l e R s m args below meth c H locs cells slots Q (F0 m S.1 ls rest)) (h : ri_push r S = some L) (k : ∀ S' ∈ L, ri_At p l e R s m args below meth c nL n0 z0 τ κ D A H0 ad0 Q S') : ri_At p l e R s m args below meth c nL n0 z0 τ κ D A H0 ad0 Q S := by
  unfold ri_push at h
  cases h
  obtain ⟨z, hz, hi⟩ := hi
  intro ws H locs ls st cells slots hH hP hD hS hL hst had hc hz'
  exact hi (k _ (List.mem_singleton.mpr rfl) ws H locs ls _ cells slots hH hP hD hS hL ⟨⟨z, rfl, ri_gI_0.mpr (by omega)⟩, hst⟩ had hc hz')
theorem rs_bin {f : ri_I → ri_I → Option ri_I} {g : Int32 → Int32 → Int32} (hf : ∀ {x y z : ri_I} {u v : Int32}, f x y = some z → ri_gI τ x u → ri_gI τ y v → ri_gI τ z (g u v)) (hi : ∀ {H : Heap} {locs : List Loc} {cells slots : Nat} {ls : Array Slot} {rest : List Value} {u v : Int32}, (∀ {x y z : ri_I}, f x y = some z → ri_gI τ x u → ri_gI τ y v → W p l e R s m args below meth c H locs cells slots Q (F0 m (S.1 + r.2.1) ls (.int (g u v) :: rest)) → W p l e R s m args below meth c H locs cells slots Q (F0 m S.1 ls (.int v :: .int u :: rest)))) (h : ri_bin f r S = some L) (k : ∀ S' ∈ L, ri_At p l e R s m args below meth c nL n0 z0 τ κ D A H0 ad0 Q S') : ri_At p l e R s m args below meth c nL n0 z0 τ κ D A H0 ad0 Q S := by
  unfold ri_bin at h
  obtain ⟨pc, lo, st0, hp, N, Z⟩ := S
  rcases st0 with _ | ⟨y | y, _ | ⟨x | x, st0⟩⟩
  · cases h
  · cases h
  · cases hz : f x y with
    | none =>
      have h : (match f x y with
        | some z => some [((Nat.add pc r.2.1, lo, .inl z :: st0, hp, N, Z) : ri_S)]
        | none => none) = some L := h
      rw [hz] at h
      cases h
    | some z =>
      have h : (match f x y with
        | some z => some [((Nat.add pc r.2.1, lo, .inl z :: st0, hp, N, Z) : ri_S)]
        | none => none) = some L := h
      rw [hz] at h
      cases h
      intro ws H locs ls st cells slots hH hP hD hS hL hst had hc hz'
      have hqs := hst
      clear hst
      obtain ⟨_, st, rfl, ⟨v, rfl, gv⟩, hst⟩ := ri_gS_cons hqs
      have hqs := hst
      clear hst
      obtain ⟨_, st, rfl, ⟨u, rfl, gu⟩, hst⟩ := ri_gS_cons hqs
      exact hi hz gu gv (k _ (List.mem_singleton.mpr rfl) ws H locs ls _ cells slots hH hP hD hS hL ⟨⟨_, rfl, hf hz gu gv⟩, hst⟩ had hc hz')
  · cases h
  · cases h
  · cases h
  · cases h
theorem rs_un {f : ri_I → Option ri_I} {g : Int32 → Int32} (hf : ∀ {x z : ri_I} {u : Int32}, f x = some z → ri_gI τ x u → ri_gI τ z (g u)) (hi : ∀ {H : Heap} {locs : List Loc} {cells slots : Nat} {ls : Array Slot} {rest : List Value} {u : Int32}, W p l e R s m args below meth c H locs cells slots Q (F0 m (S.1 + r.2.1) ls (.int (g u) :: rest)) → W p l e R s m args below meth c H locs cells slots Q (F0 m S.1 ls (.int u :: rest))) (h : ri_un f r S = some L) (k : ∀ S' ∈ L, ri_At p l e R s m args below meth c nL n0 z0 τ κ D A H0 ad0 Q S') : ri_At p l e R s m args below meth c nL n0 z0 τ κ D A H0 ad0 Q S := by
  unfold ri_un at h
  obtain ⟨pc, lo, st0, hp, N, Z⟩ := S
  rcases st0 with _ | ⟨x | x, st0⟩
  · cases h
  · have h : (match f x with
        | some z => some [((Nat.add pc r.2.1, lo, .inl z :: st0, hp, N, Z) : ri_S)]
        | none => none) = some L := h
    cases hz : f x with
    | none => rw [hz] at h; cases h
    | some z =>
      rw [hz] at h
      cases h
      intro ws H locs ls st cells slots hH hP hD hS hL hst had hc hz'
      have hqs := hst
      clear hst
      obtain ⟨_, st, rfl, ⟨u, rfl, gu⟩, hst⟩ := ri_gS_cons hqs
      exact hi (k _ (List.mem_singleton.mpr rfl) ws H locs ls _ cells slots hH hP hD hS hL ⟨⟨_, rfl, hf hz gu⟩, hst⟩ had hc hz')
  · cases h
theorem ri_condN {α : Type} {b : Bool} {x : Option α} {z : α} (h : cond b none x = some z) : b = false ∧ x = some z := by
  cases b with
  | true => cases h
  | false => exact ⟨rfl, h⟩
theorem rs_dup (hx : p.tables.exec = Jvm.exec) (hb : c.code = cc) (hl : r.2.1 = 1) (hd : decode cc S.1 = .ok (.dup, 1)) (h : ri_dup r S = some L) (k : ∀ S' ∈ L, ri_At p l e R s m args below meth c nL n0 z0 τ κ D A H0 ad0 Q S') : ri_At p l e R s m args below meth c nL n0 z0 τ κ D A H0 ad0 Q S := by
  unfold ri_dup at h
  obtain ⟨pc, lo, st0, hp, N, Z⟩ := S
  rcases st0 with _ | ⟨a, st0⟩
  · cases h
  · obtain ⟨c1, h⟩ := ri_condN h
    cases h
    intro ws H locs ls st cells slots hH hP hD hS hL hst had hc hz
    have hqs := hst
    clear hst
    obtain ⟨v, st, rfl, gv, hst⟩ := ri_gS_cons hqs
    refine lv_dup hx hb hd (ri_gV_cat gv c1) ?_
    have := k _ (List.mem_singleton.mpr rfl) ws H locs ls (v :: v :: st) cells slots hH hP hD hS hL ⟨gv, gv, hst⟩ had hc hz
    rw [hl] at this
    exact this
theorem rs_pop (hx : p.tables.exec = Jvm.exec) (hb : c.code = cc) (hl : r.2.1 = 1) (hd : decode cc S.1 = .ok (.pop, 1)) (h : ri_pop r S = some L) (k : ∀ S' ∈ L, ri_At p l e R s m args below meth c nL n0 z0 τ κ D A H0 ad0 Q S') : ri_At p l e R s m args below meth c nL n0 z0 τ κ D A H0 ad0 Q S := by
  unfold ri_pop at h
  obtain ⟨pc, lo, st0, hp, N, Z⟩ := S
  rcases st0 with _ | ⟨a, st0⟩
  · cases h
  · obtain ⟨c1, h⟩ := ri_condN h
    cases h
    intro ws H locs ls st cells slots hH hP hD hS hL hst had hc hz
    have hqs := hst
    clear hst
    obtain ⟨v, st, rfl, gv, hst⟩ := ri_gS_cons hqs
    refine lv_pop hx hb hd (ri_gV_cat gv c1) ?_
    have := k _ (List.mem_singleton.mpr rfl) ws H locs ls st cells slots hH hP hD hS hL hst had hc hz
    rw [hl] at this
    exact this
theorem rs_dupx1 (hx : p.tables.exec = Jvm.exec) (hb : c.code = cc) (hl : r.2.1 = 1) (hd : decode cc S.1 = .ok (.dup_x1, 1)) (h : ri_dupx1 r S = some L) (k : ∀ S' ∈ L, ri_At p l e R s m args below meth c nL n0 z0 τ κ D A H0 ad0 Q S') : ri_At p l e R s m args below meth c nL n0 z0 τ κ D A H0 ad0 Q S := by
  unfold ri_dupx1 at h
  obtain ⟨pc, lo, st0, hp, N, Z⟩ := S
  rcases st0 with _ | ⟨a, _ | ⟨b, st0⟩⟩
  · cases h
  · cases h
  · obtain ⟨c1, h⟩ := ri_condN h
    obtain ⟨c2, h⟩ := ri_condN h
    cases h
    intro ws H locs ls st cells slots hH hP hD hS hL hst had hc hz
    have hqs := hst
    clear hst
    obtain ⟨v, st, rfl, gv, hst⟩ := ri_gS_cons hqs
    have hqs := hst
    clear hst
    obtain ⟨w, st, rfl, gw, hst⟩ := ri_gS_cons hqs
    refine lv_dup_x1 hx hb hd (ri_gV_cat gv c1) (ri_gV_cat gw c2) ?_
    have := k _ (List.mem_singleton.mpr rfl) ws H locs ls (v :: w :: v :: st) cells slots hH hP hD hS hL ⟨gv, gw, gv, hst⟩ had hc hz
    rw [hl] at this
    exact this
theorem rs_dup2 (hx : p.tables.exec = Jvm.exec) (hb : c.code = cc) (hl : r.2.1 = 1) (hd : decode cc S.1 = .ok (.dup2, 1)) (h : ri_dup2 r S = some L) (k : ∀ S' ∈ L, ri_At p l e R s m args below meth c nL n0 z0 τ κ D A H0 ad0 Q S') : ri_At p l e R s m args below meth c nL n0 z0 τ κ D A H0 ad0 Q S := by
  unfold ri_dup2 at h
  obtain ⟨pc, lo, st0, hp, N, Z⟩ := S
  rcases st0 with _ | ⟨a, _ | ⟨b, st0⟩⟩
  · cases h
  · cases h
  · obtain ⟨c1, h⟩ := ri_condN h
    obtain ⟨c2, h⟩ := ri_condN h
    cases h
    intro ws H locs ls st cells slots hH hP hD hS hL hst had hc hz
    have hqs := hst
    clear hst
    obtain ⟨v, st, rfl, gv, hst⟩ := ri_gS_cons hqs
    have hqs := hst
    clear hst
    obtain ⟨w, st, rfl, gw, hst⟩ := ri_gS_cons hqs
    refine lv_dup2_11 hx hb hd (ri_gV_cat gv c1) (ri_gV_cat gw c2) ?_
    have := k _ (List.mem_singleton.mpr rfl) ws H locs ls (v :: w :: v :: w :: st) cells slots hH hP hD hS hL ⟨gv, gw, gv, gw, hst⟩ had hc hz
    rw [hl] at this
    exact this
theorem rs_iinc (hx : p.tables.exec = Jvm.exec) (hb : c.code = cc) (hE : ri_okE E τ) {n : Int} (hl : r.2.1 = 3) (hn : r.2.2.1 < nL) (hv : (Int32.ofInt n).toInt = r.2.2.2.2) (hd : decode cc S.1 = .ok (.iinc r.2.2.1 n, 3)) (h : ri_iinc E r S = some L) (k : ∀ S' ∈ L, ri_At p l e R s m args below meth c nL n0 z0 τ κ D A H0 ad0 Q S') : ri_At p l e R s m args below meth c nL n0 z0 τ κ D A H0 ad0 Q S := by
  unfold ri_iinc at h
  rw [ri_nth_eq] at h
  cases hx0 : S.2.1[r.2.2.1]? with
  | none => rw [hx0] at h; cases h
  | some o =>
    rw [hx0] at h
    rcases o with _ | x | x
    · cases h
    · have h : (match ri_add E x (0, r.2.2.2.2, r.2.2.2.2) with
        | some z => some [((Nat.add S.1 r.2.1, ri_set (some (.inl z)) S.2.1 r.2.2.1, S.2.2.1, S.2.2.2) : ri_S)]
        | none => none) = some L := h
      cases hz : ri_add E x (0, r.2.2.2.2, r.2.2.2.2) with
      | none => rw [hz] at h; cases h
      | some z =>
        rw [hz] at h
        cases h
        intro ws H locs ls st cells slots hH hP hD hS hL hst had hc hz'
        obtain ⟨lv, l1, l2⟩ := hL
        obtain ⟨v, g1, ⟨u, rfl, gu⟩, -⟩ := l2 _ _ hx0
        obtain ⟨q, hq⟩ := List.getElem?_of_mem g1
        have gz := ri_add_ok hE hz gu (v := Int32.ofInt n) (ri_gI_0.mpr (by omega))
        refine lv_iinc hx hb hd l1 (k := q) hq rfl hn rfl (fun ls' hl' => ?_)
        have := k _ (List.mem_singleton.mpr rfl) ws H locs ls' st cells slots hH hP hD hS (by
          show ri_gL τ (ri_ad ws) (ri_set _ _ _) nL ls'
          rw [ri_set_eq]
          exact ri_gL_set l2 (a := .inl z) ⟨_, rfl, gz⟩ rfl hl') hst had hc hz'
        rw [hl] at this
        exact this
    · cases h
theorem rs_goto (hx : p.tables.exec = Jvm.exec) (hb : c.code = cc) {off : Int} (ht : (S.1 : Int) + off = (r.2.2.1 : Int)) (hd : decode cc S.1 = .ok (.goto off, 3)) (h : ri_goto r S = some L) (k : ∀ S' ∈ L, ri_At p l e R s m args below meth c nL n0 z0 τ κ D A H0 ad0 Q S') : ri_At p l e R s m args below meth c nL n0 z0 τ κ D A H0 ad0 Q S := by
  unfold ri_goto at h
  cases h
  intro ws H locs ls st cells slots hH hP hD hS hL hst had hc hz
  exact lv_goto hx hb hd ht (k _ (List.mem_singleton.mpr rfl) ws H locs ls st cells slots hH hP hD hS hL hst had hc hz)
/-- a branch: to each side that isn't ruled out -/
theorem rs_br {P : Prop} {o : Option Bool} {st0 : List ri_V} (ho : ∀ b, o = some b → if b then P else ¬ P) (h : ri_br o r S st0 = some L) : (P → (r.2.2.1, S.2.1, st0, S.2.2.2) ∈ L) ∧ (¬ P → (Nat.add S.1 r.2.1, S.2.1, st0, S.2.2.2) ∈ L) := by
  unfold ri_br at h
  rcases o with _ | b
  · cases h
    exact ⟨fun _ => List.mem_cons_self, fun _ => List.mem_cons_of_mem _ List.mem_cons_self⟩
  · cases b with
    | true =>
      cases h
      exact ⟨fun _ => List.mem_singleton.mpr rfl, fun q => absurd (ho true rfl) q⟩
    | false =>
      cases h
      exact ⟨fun q => absurd q (ho false rfl), fun _ => List.mem_singleton.mpr rfl⟩
theorem ri_toInt0 : (0 : Int32).toInt = 0 := rfl
theorem rs_icmp (hx : p.tables.exec = Jvm.exec) (hb : c.code = cc) (hE : ri_okE E τ) {cnd : Jvm.ClassFile.Cond} {off : Int} (hl : r.2.1 = 3) (ht : (S.1 : Int) + off = (r.2.2.1 : Int)) (hd : decode cc S.1 = .ok (.if_icmp cnd off, 3)) (h : ri_icmp E cnd r S = some L) (k : ∀ S' ∈ L, ri_At p l e R s m args below meth c nL n0 z0 τ κ D A H0 ad0 Q S') : ri_At p l e R s m args below meth c nL n0 z0 τ κ D A H0 ad0 Q S := by
  unfold ri_icmp at h
  obtain ⟨pc, lo, st0, hp, N, Z⟩ := S
  rcases st0 with _ | ⟨y | y, _ | ⟨x | x, st0⟩⟩
  · cases h
  · cases h
  · have h : (match ri_pair E x y with
        | some q => ri_br (ri_cmp cnd q) r (pc, lo, .inl y :: .inl x :: st0, hp, N, Z) st0
        | none => none) = some L := h
    cases hq : ri_pair E x y with
    | none => rw [hq] at h; cases h
    | some q =>
      rw [hq] at h
      intro ws H locs ls st cells slots hH hP hD hS hL hst had hc hz
      have hqs := hst
      clear hst
      obtain ⟨_, st, rfl, ⟨v, rfl, gv⟩, hst⟩ := ri_gS_cons hqs
      have hqs := hst
      clear hst
      obtain ⟨_, st, rfl, ⟨u, rfl, gu⟩, hst⟩ := ri_gS_cons hqs
      obtain ⟨d, d1, d2, d3, d4⟩ := ri_pair_ok hE hq gu gv
      obtain ⟨b1, b2⟩ := rs_br (P := ri_hold cnd u.toInt v.toInt) (fun b hb => ri_cmp_ok hb d1 d2 d3 d4) h
      have t1 : ri_hold cnd u.toInt v.toInt → W p l e R s m args below meth c H locs cells slots Q (F0 m r.2.2.1 ls st) := fun g => k _ (b1 g) ws H locs ls st cells slots hH hP hD hS hL hst had hc hz
      have t2 : ¬ ri_hold cnd u.toInt v.toInt → W p l e R s m args below meth c H locs cells slots Q (F0 m (pc + 3) ls st) := fun g => by
        have := k _ (b2 g) ws H locs ls st cells slots hH hP hD hS hL hst had hc hz
        rw [hl] at this
        exact this
      cases cnd with
      | eq => exact lv_icmp_eq hx hb hd ht (fun g => t1 (congrArg Int32.toInt g)) (fun g => t2 (fun q => g (Int32.toInt_inj.mp q)))
      | ne => exact lv_icmp_ne hx hb hd ht (fun g => t1 (fun q => g (Int32.toInt_inj.mp q))) (fun g => t2 (fun q => q (congrArg Int32.toInt g)))
      | lt => exact lv_icmp_lt hx hb hd ht (fun g => t1 (Int32.lt_iff_toInt_lt.mp g)) (fun g => t2 (fun q => g (Int32.lt_iff_toInt_lt.mpr q)))
      | ge => exact lv_icmp_ge hx hb hd ht (fun g => t1 (Int32.le_iff_toInt_le.mp g)) (fun g => t2 (fun q => g (Int32.le_iff_toInt_le.mpr q)))
      | gt => exact lv_icmp_gt hx hb hd ht (fun g => t1 (Int32.lt_iff_toInt_lt.mp g)) (fun g => t2 (fun q => g (Int32.lt_iff_toInt_lt.mpr q)))
      | le => exact lv_icmp_le hx hb hd ht (fun g => t1 (Int32.le_iff_toInt_le.mp g)) (fun g => t2 (fun q => g (Int32.le_iff_toInt_le.mpr q)))
  · cases h
  · cases h
  · cases h
  · cases h
theorem rs_if (hx : p.tables.exec = Jvm.exec) (hb : c.code = cc) (hE : ri_okE E τ) {cnd : Jvm.ClassFile.Cond} {off : Int} (hl : r.2.1 = 3) (ht : (S.1 : Int) + off = (r.2.2.1 : Int)) (hd : decode cc S.1 = .ok (.ifCond cnd off, 3)) (h : ri_if E cnd r S = some L) (k : ∀ S' ∈ L, ri_At p l e R s m args below meth c nL n0 z0 τ κ D A H0 ad0 Q S') : ri_At p l e R s m args below meth c nL n0 z0 τ κ D A H0 ad0 Q S := by
  unfold ri_if at h
  obtain ⟨pc, lo, st0, hp, N, Z⟩ := S
  rcases st0 with _ | ⟨x | x, st0⟩
  · cases h
  · have h : (match ri_pair E x (0, 0, 0) with
        | some q => ri_br (ri_cmp cnd q) r (pc, lo, .inl x :: st0, hp, N, Z) st0
        | none => none) = some L := h
    cases hq : ri_pair E x (0, 0, 0) with
    | none => rw [hq] at h; cases h
    | some q =>
      rw [hq] at h
      intro ws H locs ls st cells slots hH hP hD hS hL hst had hc hz
      have hqs := hst
      clear hst
      obtain ⟨_, st, rfl, ⟨u, rfl, gu⟩, hst⟩ := ri_gS_cons hqs
      obtain ⟨d, d1, d2, d3, d4⟩ := ri_pair_ok hE hq gu (v := 0) (ri_gI_0.mpr ⟨Int.le_refl _, Int.le_refl _⟩)
      obtain ⟨b1, b2⟩ := rs_br (P := ri_hold cnd u.toInt (0 : Int32).toInt) (fun b hb => ri_cmp_ok hb d1 d2 d3 d4) h
      have t1 : ri_hold cnd u.toInt (0 : Int32).toInt → W p l e R s m args below meth c H locs cells slots Q (F0 m r.2.2.1 ls st) := fun g => k _ (b1 g) ws H locs ls st cells slots hH hP hD hS hL hst had hc hz
      have t2 : ¬ ri_hold cnd u.toInt (0 : Int32).toInt → W p l e R s m args below meth c H locs cells slots Q (F0 m (pc + 3) ls st) := fun g => by
        have := k _ (b2 g) ws H locs ls st cells slots hH hP hD hS hL hst had hc hz
        rw [hl] at this
        exact this
      cases cnd with
      | eq => exact lv_if_eq hx hb hd ht (fun g => t1 (congrArg Int32.toInt g)) (fun g => t2 (fun q => g (Int32.toInt_inj.mp q)))
      | ne => exact lv_if_ne hx hb hd ht (fun g => t1 (fun q => g (Int32.toInt_inj.mp q))) (fun g => t2 (fun q => q (congrArg Int32.toInt g)))
      | lt => exact lv_if_lt hx hb hd ht (fun g => t1 (Int32.lt_iff_toInt_lt.mp g)) (fun g => t2 (fun q => g (Int32.lt_iff_toInt_lt.mpr q)))
      | ge => exact lv_if_ge hx hb hd ht (fun g => t1 (Int32.le_iff_toInt_le.mp g)) (fun g => t2 (fun q => g (Int32.le_iff_toInt_le.mpr q)))
      | gt => exact lv_if_gt hx hb hd ht (fun g => t1 (Int32.lt_iff_toInt_lt.mp g)) (fun g => t2 (fun q => g (Int32.lt_iff_toInt_lt.mpr q)))
      | le => exact lv_if_le hx hb hd ht (fun g => t1 (Int32.le_iff_toInt_le.mp g)) (fun g => t2 (fun q => g (Int32.le_iff_toInt_le.mpr q)))
  · cases h
end RI8
