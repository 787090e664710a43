section RI17
variable {p : Program} {l : Launch} {e : Env} {R : Room} {s : State} {m : MethodId} {args : Array Value} {below : List Frame} {meth : Method} {c : Code} {H : Heap} {locs : List Loc} {cells slots mc ms pc : Nat} {Q : State → Prop} {ls : Array Slot} {st0 rest : List Value} {Qa : State → Outcome → State → Prop} {free : Addr → Prop}
theorem ri_callR (hr : va_Run p l e R s m args below meth c H locs cells slots mc ms (F0 m pc ls st0) rest Qa free) (kk : ∀ (v : Option Value) (st₀ t : State) (L : List Loc), st₀.heap = H → (∀ q ∈ L, free q.base) → Qa st₀ (.returned v) t → W p l e R s m args below meth c t.heap (locs ++ L) (cells + mc) (slots + ms) Q (F0 m (pc + 3) ls (v.toList ++ rest))) : W p l e R s m args below meth c H locs cells slots Q (F0 m pc ls st0) := by
  intro T hT X
  obtain ⟨v, st₀, t, T', L, h0, X', hL, e1, e2, hq, st⟩ := hr T hT X
  obtain ⟨t2, a1, b1⟩ := kk v st₀ t L h0 hL hq T' e1 X'
  exact ⟨t2, st t2 a1, b1⟩
theorem ri_S_after {A0 A1 : Nat → Prop} {H0 H : Heap} {locs L : List Loc} {st₀ t : State} (hS : va_S A0 H0 H locs) (hF : va_F A1 st₀ t) (h0 : st₀.heap = H) (hA : ∀ q, A1 q → A0 q) (hL : ∀ q ∈ L, A1 q.base) : va_S A0 H0 t.heap (locs ++ L) := by
  obtain ⟨f1, f2⟩ := hF
  rw [h0] at f1 f2
  refine ⟨Nat.le_trans hS.1 f1, fun q h1 h2 => ?_, fun q hq => ?_⟩
  · rw [f2 q (Nat.lt_of_lt_of_le h1 hS.1) (fun z => h2 (hA q z))]
    exact hS.2.1 q h1 h2
  · rcases List.mem_append.mp hq with h | h
    · exact hS.2.2 q h
    · exact hA _ (hL q h)
end RI17
theorem ri_max_ok {E : ri_E} {τ : Nat → Int} (hE : ri_okE E τ) {x y z : ri_I} (h : ri_maxf E x y = some z) {u v : Int32} (hu : ri_gI τ x u) (hv : ri_gI τ y v) : ri_gI τ z (if u < v then v else u) := by
  unfold ri_maxf at h
  split at h
  · cases h
  · rename_i q hq
    split at h
    · cases h
    · rename_i b hb
      cases h
      obtain ⟨d, d1, d2, d3, d4⟩ := ri_pair_ok hE hq hu hv
      have g := ri_clt_ok hb d1 d2 d3 d4
      cases b with
      | true => rw [if_pos (Int32.lt_iff_toInt_lt.mpr g)]; exact hv
      | false => rw [if_neg (fun k => g (Int32.lt_iff_toInt_lt.mp k))]; exact hu
theorem ri_min_ok {E : ri_E} {τ : Nat → Int} (hE : ri_okE E τ) {x y z : ri_I} (h : ri_minf E x y = some z) {u v : Int32} (hu : ri_gI τ x u) (hv : ri_gI τ y v) : ri_gI τ z (if v < u then v else u) := by
  unfold ri_minf at h
  split at h
  · cases h
  · rename_i q hq
    split at h
    · cases h
    · rename_i b hb
      cases h
      obtain ⟨d, d1, d2, d3, d4⟩ := ri_pair_ok hE hq hu hv
      have g := ri_clt_ok hb d3 d4 d1 d2
      cases b with
      | true => rw [if_pos (Int32.lt_iff_toInt_lt.mpr g)]; exact hv
      | false => rw [if_neg (fun k => g (Int32.lt_iff_toInt_lt.mp k))]; exact hu
section RI17b
variable {p : Program} {l : Launch} {e : Env} {R : Room} {s : State} {m : MethodId} {args : Array Value} {below : List Frame} {meth : Method} {c : Code} {cc : ByteArray} {nL n0 z0 : Nat} {τ : Nat → Int} {κ : Nat → ClassId} {D : va_G} {A : Nat → Prop} {H0 : Heap} {ad0 : List Nat} {Q : State → Prop} {own : String} {E : ri_E} {r : ri_R} {S : ri_S} {L : List ri_S}
/-- Math.max, Math.min -/
theorem rs_mm {f : ri_I → ri_I → Option ri_I} {g : Int32 → Int32 → Int32} (hf : ∀ {x y z : ri_I} {u v : Int32}, f x y = some z → ri_gI τ x u → ri_gI τ y v → ri_gI τ z (g u v)) (hi : ∀ {H : Heap} {locs : List Loc} {cells slots : Nat} {ls : Array Slot} {rest : List Value} {u v : Int32}, c.maxLocals = ls.size → (rest.map fun v => v.category).sum + 13 ≤ R.locals → cells ≤ R.cells → slots ≤ R.slots → W p l e R s m args below meth c H locs cells slots Q (F0 m (S.1 + 3) ls (.int (g u v) :: rest)) → W p l e R s m args below meth c H locs cells slots Q (F0 m S.1 ls (.int v :: .int u :: rest))) (hml : c.maxLocals = nL) (hlo : 100 ≤ R.locals) (hl : r.2.1 = 3) (hst8 : S.2.2.1.length ≤ 8) (h : ri_bin f r S = some L) (hroom : ∀ S' ∈ L, S'.2.2.2.2.1 ≤ n0 + R.cells ∧ S'.2.2.2.2.2 ≤ z0 + R.slots) (k : ∀ S' ∈ L, ri_At p l e R s m args below meth c nL n0 z0 τ κ D A H0 ad0 Q S') : ri_At p l e R s m args below meth c nL n0 z0 τ κ D A H0 ad0 Q S := by
  unfold ri_bin at h
  obtain ⟨pc, lo, st0, hp, N, Z⟩ := S
  rcases st0 with _ | ⟨y | y, _ | ⟨x | x, st0⟩⟩
  all_goals first | (cases h; done) | skip
  have h : (match f x y with
    | some z => some [((Nat.add pc r.2.1, lo, .inl z :: st0, hp, N, Z) : ri_S)]
    | none => none) = some L := h
  cases hz : f x y with
  | none => rw [hz] at h; cases h
  | some z =>
    rw [hz] at h
    cases h
    have hr := hroom _ (List.mem_singleton.mpr rfl)
    have hr1 : N ≤ n0 + R.cells := hr.1
    have hr2 : Z ≤ z0 + R.slots := hr.2
    intro ws H locs ls st cells slots hH hP hD hS hL hst had hc hz'
    have hc1 : cells + n0 = N := hc
    have hz1 : slots + z0 = Z := hz'
    have hqs := hst
    clear hst
    obtain ⟨_, st, rfl, ⟨v, rfl, gv⟩, hst⟩ := ri_gS_cons hqs
    have hqs := hst
    clear hst
    obtain ⟨_, st, rfl, ⟨u, rfl, gu⟩, hst⟩ := ri_gS_cons hqs
    have hlen := ri_gS_len hst
    have hst8 : st0.length + 2 ≤ 8 := by simpa using hst8
    have hcat := ri_cats st
    refine hi (by rw [hml]; obtain ⟨lv, l1, -⟩ := hL; exact l1.1.symm) (by omega) (by omega) (by omega) ?_
    have := k _ (List.mem_singleton.mpr rfl) ws H locs ls (.int (g u v) :: st) cells slots hH hP hD hS hL ⟨⟨_, rfl, hf hz gu gv⟩, hst⟩ had hc hz'
    rw [hl] at this
    exact this
end RI17b
theorem ri_head {τ : Nat → Int} {ad : List Nat} {A : List (Option ri_V)} {V : List Value} {b : Nat} {A' : List (Option ri_V)} (h : ri_rel τ ad A V) (hA : A = some (.inr (.inl (some b))) :: A') : ∃ q V', V = .ref q :: V' ∧ ri_gV τ ad (.inr (.inl (some b))) (.ref q) := by
  subst hA
  obtain ⟨v, h1, q, h2, rfl⟩ := h.2.1 0 _ rfl
  cases V with
  | nil => cases h1
  | cons w V' =>
    cases h1
    exact ⟨q, V', rfl, q, h2, rfl⟩
theorem ri_recv3 {h : List ri_C} {a : List (Option ri_V)} (g : ri_recv 3 h a = true) : ∃ b a', a = some (.inr (.inl (some b))) :: a' := by
  unfold ri_recv at g
  split at g
  all_goals first | (rename_i e; cases e; done) | skip
  · split at g
    · exact ⟨_, _, rfl⟩
    · cases g
theorem ri_recv4 {c : Nat} {h : List ri_C} {a : List (Option ri_V)} (g : ri_recv (c + 4) h a = true) : ∃ b a' o, a = some (.inr (.inl (some b))) :: a' ∧ h[b]? = some (.inl o) ∧ o.1 = c := by
  rcases a with _ | ⟨_ | x | (_ | b) | x, a'⟩
  · cases g
  · cases g
  · cases g
  · cases g
  · have g : (match (generalizing := false) ri_nth h b with
      | some (.inl o) => Nat.beq o.1 c
      | _ => false) = true := g
    rw [ri_nth_eq] at g
    rcases ho : h[b]? with _ | o | o
    · rw [ho] at g
      cases g
    · rw [ho] at g
      exact ⟨b, a', o, rfl, ho, Nat.eq_of_beq_eq_true g⟩
    · rw [ho] at g
      cases g
  · cases g
theorem gU_in {w : Cond} (h : w ∈ gU) (ws : List Cond) (hs : ∀ w ∈ ws, w ∈ gU) : GoodIn gU (w :: ws) := fun v hv => by
  rcases List.mem_cons.mp hv with rfl | hv
  · exact ⟨h, (gU_good _ h).2⟩
  · exact ⟨hs v hv, (gU_good _ (hs v hv)).2⟩
set_option maxHeartbeats 4000000 in
theorem ri_sound {E : ri_E} {τ : Nat → Int} {mT : List ri_MT} {mt : List ri_M} {stop : Nat × Nat} (hco : ri_clsOK) (hao : ri_arrOK) (htab : ri_tabOK mT mt) (hE : ri_okE E τ) : ∀ n, ri_Snd E τ mT mt stop n := by
  intro n
  induction n with
  | zero => intro d mi S outs h; cases h
  | succ n IH =>
    intro d mi S outs h p l e R s m args below meth c cc nL y ret n0 z0 κ D A H0 ad0 Q hm hx hb hml hown hnm hts hK hN hA hfr hlo hfin hret hstop
    obtain ⟨t1, t2, t3, t4, t5, t6⟩ := htab mi y cc nL ret hm
    -- from a state that it goes on with
    have next : ∀ (S' : ri_S) (o' : List ri_O), ri_run E rD mt stop n d mi S' = some o' → (∀ o ∈ o', o ∈ outs) → ri_At p l e R s m args below meth c nL n0 z0 τ κ D A H0 ad0 Q S' := fun S' o' h' hsub => IH d mi S' o' h' p l e R s m args below meth c cc nL y ret n0 z0 κ D A H0 ad0 Q hm hx hb hml hown hnm hts hK hN hA hfr hlo (fun o ho => hfin o (hsub o ho)) (fun q hq => hret q (hsub _ hq)) (fun S' hS' => hstop S' (hsub _ hS'))
    have room : ∀ (S' : ri_S) (o' : List ri_O), ri_run E rD mt stop n d mi S' = some o' → (∀ o ∈ o', o ∈ outs) → S'.2.2.2.2.1 ≤ n0 + R.cells ∧ S'.2.2.2.2.2 ≤ z0 + R.slots := fun S' o' h' hsub => by
      obtain ⟨g1, g2⟩ := ri_run_mo n h'
      cases o' with
      | nil => exact absurd rfl g1
      | cons o t =>
        have h1 := g2 o List.mem_cons_self
        have h2 := hfin o (hsub o List.mem_cons_self)
        omega
    rcases ri_run_body h with rfl | ⟨r, hr, h⟩
    · exact hstop S (List.mem_singleton.mpr rfl)
    · rcases t6 S.1 r hr with hnop | hrow
      · -- no instruction stands there
        obtain ⟨i, q⟩ := r
        have hnop : i = .nop := hnop
        subst hnop
        rcases ri_body2_cases h with ⟨g, -⟩ | ⟨g, -⟩ | ⟨⟨j, g⟩ | ⟨j, g⟩ | ⟨j, g⟩, -⟩ | ⟨L, g, -⟩ <;> cases g
      · rcases ri_body2_cases h with ⟨hi, h⟩ | ⟨hi, h⟩ | ⟨hi, h⟩ | ⟨L, h1, h2⟩
        · -- an answer
          obtain ⟨x, hst0, rfl, hx0⟩ := ri_ret_out h
          obtain ⟨hd, ho⟩ := hrow
          obtain ⟨i, len, a, b, v⟩ := r
          have hi : i = .ireturn := hi
          subst hi
          obtain ⟨rfl, ho⟩ : len = 1 ∧ ((a = 0 ∧ ret = some .int) ∨ (a = 1 ∧ ret = some .boolean)) := ho
          intro ws H locs ls st cells slots hH hP hD hS hL hst had hc hz
          rw [hst0] at hst
          obtain ⟨w, st, rfl, ⟨z, rfl, gz⟩, hst1⟩ := ri_gS_cons hst
          have := ri_gS_nil hst1
          subst this
          refine hret _ (List.mem_singleton.mpr rfl) ws H locs cells slots S.1 ls [.int z] hH hP hD hS had hc hz ⟨z, rfl, ⟨z, rfl, gz⟩, hd, ?_⟩
          rcases ho with ⟨-, ho⟩ | ⟨ha, ho⟩
          · exact Or.inl ho
          · rcases hx0 with hx0 | hx0
            · have hx0 : a = 0 := hx0
              omega
            · exact Or.inr ⟨ho, ri_fit1 hE hx0 gz⟩
        · -- the end without an answer
          obtain ⟨hst0, rfl⟩ := ri_retv_out h
          obtain ⟨hd, ho⟩ := hrow
          obtain ⟨i, len, a, b, v⟩ := r
          have hi : i = .return_ := hi
          subst hi
          obtain ⟨rfl, ho⟩ : len = 1 ∧ ret = none := ho
          intro ws H locs ls st cells slots hH hP hD hS hL hst had hc hz
          rw [hst0] at hst
          have := ri_gS_nil hst
          subst this
          exact hret _ (List.mem_singleton.mpr rfl) ws H locs cells slots S.1 ls [] hH hP hD hS had hc hz ⟨rfl, hd, ho⟩
        · -- a call
          obtain ⟨d1, rfl, ⟨ha, h⟩ | ⟨ha, h⟩ | ⟨ha1, ha2, h⟩⟩ := ri_call_cases h
          · -- Object.<init>
            obtain ⟨a0, st0, hst0, hst4, h⟩ := ri_call1_out h
            obtain ⟨hd, ho⟩ := hrow
            obtain ⟨i, len, a, b, v⟩ := r
            have ha : a = 1 := ha
            subst ha
            rcases hi with ⟨j, hi⟩ | ⟨j, hi⟩ | ⟨j, hi⟩
            · have hi : i = .invokevirtual j := hi
              subst hi
              obtain ⟨rfl, -, -, -, -, ci, -, -, -, -, e0, -⟩ := ho
              have e0 : 1 = ci + 4 := e0
              omega
            · have hi : i = .invokespecial j := hi
              subst hi
              obtain ⟨e3, ho⟩ := ho
              have e3 : len = 3 := e3
              subst e3
              rcases ho with ⟨-, hlink⟩ | ⟨e0, -⟩
              · intro ws H locs ls st cells slots hH hP hD hS hL hst had hc hz
                rw [hst0] at hst
                obtain ⟨w, st, rfl, ⟨q, -, rfl⟩, hst1⟩ := ri_gS_cons hst
                have hlen := ri_gS_len hst1
                have hcat := ri_cats st
                obtain ⟨lv, l1, l2⟩ := id hL
                have hroom := lv_room (m := m) (pc := S.1) (ls := ls) (rest := .ref q :: st) (st := st) (by omega)
                refine W.objInit hx hb hown (hts _ hlink) (hts _ hao.2.2.2.2.2.2.2.1) (hts _ hao.2.2.2.2.2.2.2.2.1) rfl (by rw [hml]; exact l1.1) rfl hd (by omega) (by omega) ?_
                refine W.eq (g2 := F0 m (S.1 + 3) ls st) rfl ?_
                exact next _ _ h (fun _ g => g) ws H locs ls st cells slots hH hP hD hS hL hst1 had hc hz
              · cases e0
            · have hi : i = .invokestatic j := hi
              subst hi
              obtain ⟨-, ⟨e0, -⟩ | ⟨e0, -⟩⟩ := ho
              · cases e0
              · cases e0
          · -- System.arraycopy
            obtain ⟨hst8, L, h1, h2⟩ := ri_call2_out h
            obtain ⟨hd, ho⟩ := hrow
            obtain ⟨g1, g2⟩ := ri_go_ok h2
            obtain ⟨i, len, a, b, v⟩ := r
            have ha : a = 2 := ha
            subst ha
            rcases hi with ⟨j, hi⟩ | ⟨j, hi⟩ | ⟨j, hi⟩
            · have hi : i = .invokevirtual j := hi
              subst hi
              obtain ⟨rfl, -, -, -, -, ci, -, -, -, -, e0, -⟩ := ho
              have e0 : 2 = ci + 4 := e0
              omega
            · have hi : i = .invokespecial j := hi
              subst hi
              obtain ⟨-, ⟨e0, -⟩ | ⟨e0, -⟩⟩ := ho
              · cases e0
              · cases e0
            · have hi : i = .invokestatic j := hi
              subst hi
              obtain ⟨e3, ho⟩ := ho
              have e3 : len = 3 := e3
              subst e3
              have kk : ∀ S' ∈ L, ri_At p l e R s m args below meth c nL n0 z0 τ κ D A H0 ad0 Q S' := fun S' hS' => by
                obtain ⟨o', e1, e2⟩ := g1 S' hS'
                exact next S' o' e1 e2
              have rr : ∀ S' ∈ L, S'.2.2.2.2.1 ≤ n0 + R.cells ∧ S'.2.2.2.2.2 ≤ z0 + R.slots := fun S' hS' => by
                obtain ⟨o', e1, e2⟩ := g1 S' hS'
                exact room S' o' e1 e2
              rcases ho with ⟨-, ⟨eb, hlink⟩ | ⟨eb, hlink⟩ | ⟨eb, hlink⟩ | ⟨eb, hlink⟩⟩ | ⟨e0, -⟩
              · have eb : b = 0 := eb
                subst eb
                exact rs_acp hx hb hml hown hts hK hE (by omega) (by omega) rfl hlink hao.2.2.2.2.1 hao.2.2.2.2.2.1 hao.2.2.2.2.2.2.1 hd hst8 h1 kk
              · have eb : b = 1 := eb
                subst eb
                exact rs_mm (g := fun u v => if u < v then v else u) (fun hz gu gv => ri_max_ok hE hz gu gv) (fun m1 m2 m3 m4 kk => va_mmax hx hb m1 hown (hts _ hlink) (hts _ hao.2.2.2.2.2.2.2.2.2.1) (hts _ hao.2.2.2.2.2.2.2.2.2.2.2.1) (hts _ hao.2.2.2.2.2.2.2.2.2.2.2.2.1) (by omega) m2 m3 m4 hd kk) hml (by omega) rfl hst8 h1 rr kk
              · have eb : b = 2 := eb
                subst eb
                exact rs_mm (g := fun u v => if v < u then v else u) (fun hz gu gv => ri_min_ok hE hz gu gv) (fun m1 m2 m3 m4 kk => va_mmin hx hb m1 hown (hts _ hlink) (hts _ hao.2.2.2.2.2.2.2.2.2.2.1) (hts _ hao.2.2.2.2.2.2.2.2.2.2.2.1) (hts _ hao.2.2.2.2.2.2.2.2.2.2.2.2.2.1) (by omega) m2 m3 m4 hd kk) hml (by omega) rfl hst8 h1 rr kk
              · have eb : b = 3 := eb
                subst eb
                cases h1
              · cases e0
          · -- a method of the table
            obtain ⟨q, a0, o, t, hq, htk, hr4, hrec, hrun, hea⟩ := ri_call0_out h
            obtain ⟨ea1, ea2⟩ := ri_each_ok hea
            obtain ⟨hd, ho⟩ := hrow
            have mono := ri_run_mo n hrun
            have mono1 : S.2.2.2.2.1 ≤ o.2.2.1 ∧ S.2.2.2.2.2 ≤ o.2.2.2 := mono.2 (.inl o) List.mem_cons_self
            have roomO : o.2.2.1 ≤ n0 + R.cells ∧ o.2.2.2 ≤ z0 + R.slots := by
              obtain ⟨q', e1, e2, e3, o', e4, e5⟩ := ea1 (.inl o) List.mem_cons_self
              cases e1
              exact room _ o' e4 e5
            intro ws H locs ls st cells slots hH hP hD hS hL hst had hc hz
            obtain ⟨top, rst, rfl, htop, hrst, hrel⟩ := ri_take_ok (accv := []) _ htk hst ⟨rfl, fun i x hx => by simp at hx, fun v hv => by cases hv⟩
            rw [List.append_nil] at hrel
            have hrl := ri_gS_len hrst
            have hcat := ri_cats rst
            have hFc : ∀ x, va_A ws H.size x → A x := fun x hx0 => by
              rcases hx0 with ⟨k, e0, hk⟩ | hx0
              · exact hD.2 k _ hk
              · exact hA x (Nat.le_trans hS.1 hx0)
            -- behind it
            have after : ∀ (v : Option Value) (st₀ t0 : State) (L : List Loc), st₀.heap = H → (∀ q ∈ L, va_A ws H.size q.base) → ri_Qc τ κ D ws H.size (.inl o :: t) args st₀ (.returned v) t0 → r.2.1 = 3 → W p l e R s m args below meth c t0.heap (locs ++ L) (cells + (o.2.2.1 - S.2.2.2.2.1)) (slots + (o.2.2.2 - S.2.2.2.2.2)) Q (F0 m (S.1 + 3) ls (v.toList ++ rst)) := fun v st₀ t0 L h0 hLf hQ hl3 => by
              obtain ⟨⟨q2, rv, ws', ov, m1, m2, m3, m4, m5, m6, m7, m8⟩, m9⟩ := hQ
              cases m2
              obtain ⟨q', e1, e2, e3, o', e4, e5⟩ := ea1 _ m1
              cases e1
              have := next _ o' e4 e5 ws' t0.heap (locs ++ L) ls (rv ++ rst) (cells + (o.2.2.1 - S.2.2.2.2.1)) (slots + (o.2.2.2 - S.2.2.2.2.2)) m4 m6 (m7.weaken (fun _ _ _ g => hFc _ g)) (ri_S_after hS m9 h0 hFc hLf) (ri_gL_mono hL m5) (m8 _ _ (ri_gS_mono m5 hrst)) (List.IsPrefix.trans had m5) (by show _ = q2.2.2.1; omega) (by show _ = q2.2.2.2; omega)
              rw [hl3] at this
              rw [m3]
              exact this
            have allO : ∀ x ∈ (.inl o :: t : List ri_O), ∃ q, x = .inl q ∧ q.2.2.1 = o.2.2.1 ∧ q.2.2.2 = o.2.2.2 := fun x hx0 => by
              obtain ⟨q', e1, e2, e3, -⟩ := ea1 x hx0
              exact ⟨q', e1, e2, e3⟩
            have blind : ∀ vs, FrameBlind (ri_Pc κ D ws H.size vs) := fun vs a U g mk q => by
              obtain ⟨q0, q1, qP, qK, qD, qN⟩ := q
              exact ⟨q0, q1, qP, va_K.moved (u := U) (U := U.calling g mk a) (Vm.Alike.refl U.vm) qK, qD, ri_N_same rfl qN⟩
            have pre : ∀ vs : List Value, ∀ U : State, U.heap = H → s.WarmedH U.vm → ri_Pc κ D ws H.size vs vs.toArray U := fun vs U hU hW => ⟨rfl, by rw [hU], by rw [hU]; exact hP, va_K.moved hW.alike hK, hD.weaken (fun _ _ _ _ => trivial), ri_N_warm hW hN⟩
            obtain ⟨lv, l1, l2⟩ := id hL
            have hgW : 2 * (F0 m S.1 ls (top ++ rst)).monitorRoom + (rst.map fun v => v.category).sum ≤ 8 := lv_room (by omega)
            have hcr : cells + (o.2.2.1 - S.2.2.2.2.1) ≤ R.cells ∧ slots + (o.2.2.2 - S.2.2.2.2.2) ≤ R.slots := by omega
            -- the contract
            have met : ∀ (yy : MethodName) (cc' : ByteArray) (nL' : Nat) (ret' : Option FieldType), mT[r.2.2.2.1]? = some (yy, cc', nL', ret') → Int.toNat r.2.2.2.2 ≤ nL' → ∀ As, top.reverse = As → Met l yy (.code yy cc' nL' ret' :: gU) (ri_rm d1 (o.2.2.1 - S.2.2.2.2.1) (o.2.2.2 - S.2.2.2.2.2)) (ri_Pc κ D ws H.size As) (ri_Qc τ κ D ws H.size (.inl o :: t)) (o.2.2.1 - S.2.2.2.2.1) (o.2.2.2 - S.2.2.2.2.2) (va_A ws H.size) := fun yy cc' nL' ret' hy hle As hAs => by
              subst hAs
              obtain ⟨-, -, -, u4, ⟨q'', u5, u6⟩, -⟩ := htab _ yy cc' nL' ret' hy
              have eq : q'' = q := Option.some.inj (u5.symm.trans hq)
              subst eq
              refine ri_met htab IH hrun hy allO mono1.1 mono1.2 l H.size hH hrel.2.2 ?_ (fun i x hx0 => hrel.2.1 i x (ri_pad_at hx0))
              rw [List.length_reverse, htop]
              exact hle
            have rooms : ∀ nL', nL' ≤ 60 → (ri_rm d1 (o.2.2.1 - S.2.2.2.2.1) (o.2.2.2 - S.2.2.2.2.2)).frames + 1 ≤ R.frames ∧ 8 + (nL' + 11) + (ri_rm d1 (o.2.2.1 - S.2.2.2.2.1) (o.2.2.2 - S.2.2.2.2.2)).locals ≤ R.locals := fun nL' h60 => by
              show d1 + 1 ≤ R.frames ∧ 8 + (nL' + 11) + 100 * d1 ≤ R.locals
              omega
            obtain ⟨i, len, a, b, v⟩ := r
            rcases hi with ⟨j, hi⟩ | ⟨j, hi⟩ | ⟨j, hi⟩
            · have hi : i = .invokevirtual j := hi
              subst hi
              obtain ⟨e3, yy, cc', nL', ret', ci, T, N, np, y1, y2, y3, y4, y5, y6, y7, y8, y9⟩ := ho
              have e3 : len = 3 := e3
              subst e3
              have y2 : a = ci + 4 := y2
              subst y2
              have y8 : v = ((np + 1 : Nat) : Int) := y8
              subst y8
              obtain ⟨u1, u2, -, u4, -, -⟩ := htab _ yy cc' nL' ret' y1
              obtain ⟨bb, a', ob, ea, hob, eob⟩ := ri_recv4 hrec
              obtain ⟨qb, As, eV, gqb⟩ := ri_head hrel ea
              obtain ⟨qb', e0, eqb, heb, vsb, rfl, -⟩ := ri_cell hH gqb hob
              cases eqb
              have etop : top = As.reverse ++ [.ref qb] := by
                have := congrArg List.reverse eV
                simpa using this
              have hAl : As.length = np := by
                have : top.length = np + 1 := htop
                rw [etop] at this
                simpa using this
              refine ri_callR (va_runV (Ts := gU) (C := yy.cls) (b := qb) (As := As) (rest := rst) (n := np) ⟨hx, hb, hml, hown, hts⟩ (met yy cc' nL' ret' y1 y9 (.ref qb :: As) eV) ⟨callB_of np hts (gU_in u1 gU (fun _ g => g)) rfl rfl rfl (hts _ u2) (hts _ y4) y7 (rooms nL' u4), hts _ y5, hts _ y6⟩ ⟨blind _, va_recv hK hP (ci := ci) (q0 := bb) y3 (by rw [heb, eob]), fun U hU hW => pre (.ref qb :: As) U hU hW⟩ rfl hAl l1.1 ?_ hgW hd hcr) (fun v st₀ t0 L h0 hLf hQ => after v st₀ t0 L h0 hLf hQ rfl)
              show top ++ rst = As.reverse ++ .ref qb :: rst
              rw [etop]
              simp
            · have hi : i = .invokespecial j := hi
              subst hi
              obtain ⟨e3, ho⟩ := ho
              have e3 : len = 3 := e3
              subst e3
              rcases ho with ⟨e0, -⟩ | ⟨e0, yy, cc', nL', np, y1, y2, y4, y5, y7, y8, y9⟩
              · exact absurd e0 ha1
              · have e0 : a = 3 := e0
                subst e0
                have y8 : v = ((np + 1 : Nat) : Int) := y8
                subst y8
                obtain ⟨u1, u2, -, u4, -, -⟩ := htab _ yy cc' nL' none y1
                obtain ⟨bb, a', ea⟩ := ri_recv3 hrec
                obtain ⟨qb, As, eV, gqb⟩ := ri_head hrel ea
                have etop : top = As.reverse ++ [.ref qb] := by
                  have := congrArg List.reverse eV
                  simpa using this
                have hAl : As.length = np := by
                  have : top.length = np + 1 := htop
                  rw [etop] at this
                  simpa using this
                have hstk : top ++ rst = As.reverse ++ .ref qb :: rst := by
                  rw [etop]
                  simp
                rcases y4 with y4 | ⟨host, y4⟩
                · exact ri_callR (va_runI (Ts := gU) (b := qb) (As := As) (rest := rst) (n := np) ⟨hx, hb, hml, hown, hts⟩ (met yy cc' nL' none y1 y9 (.ref qb :: As) eV) ⟨callB_of np hts (gU_in u1 gU (fun _ g => g)) rfl rfl rfl (hts _ u2) (hts _ y4) y7 (rooms nL' u4), y2, hts _ y5⟩ ⟨blind _, fun U hU hW => pre (.ref qb :: As) U hU hW⟩ rfl hAl l1.1 hstk hgW hd hcr) (fun v st₀ t0 L h0 hLf hQ => after v st₀ t0 L h0 hLf hQ rfl)
                · exact ri_callR (va_runIN (Ts := gU) (b := qb) (As := As) (rest := rst) (n := np) (host := host) ⟨hx, hb, hml, hown, hts⟩ (met yy cc' nL' none y1 y9 (.ref qb :: As) eV) ⟨va_cnB np hts (gU_in u1 gU (fun _ g => g)) rfl rfl rfl (hN.1 _ y4) (hts _ u2) y7 (rooms nL' u4), y2, hts _ y5⟩ ⟨blind _, fun U hU hW => pre (.ref qb :: As) U hU hW⟩ rfl hAl l1.1 hstk hgW hd hcr) (fun v st₀ t0 L h0 hLf hQ => after v st₀ t0 L h0 hLf hQ rfl)
            · have hi : i = .invokestatic j := hi
              subst hi
              obtain ⟨e3, ho⟩ := ho
              have e3 : len = 3 := e3
              subst e3
              rcases ho with ⟨e0, -⟩ | ⟨e0, yy, cc', nL', ret', np, y1, y4, y5, y7, y8, y9⟩
              · exact absurd e0 ha2
              · have y8 : v = (np : Int) := y8
                subst y8
                obtain ⟨u1, u2, -, u4, -, -⟩ := htab _ yy cc' nL' ret' y1
                have hAl : top.reverse.length = np := by
                  rw [List.length_reverse]
                  exact htop
                refine ri_callR (va_runS (Ts := gU) (As := top.reverse) (rest := rst) (n := np) ⟨hx, hb, hml, hown, hts⟩ (met yy cc' nL' ret' y1 y9 _ rfl) ⟨callB_of np hts (gU_in u1 gU (fun _ g => g)) rfl rfl rfl (hts _ u2) (hts _ y4) y7 (rooms nL' u4), hts _ y5⟩ ⟨blind _, fun U hU hW => pre _ U hU hW⟩ rfl hAl l1.1 ?_ hgW hd hcr) (fun v st₀ t0 L h0 hLf hQ => after v st₀ t0 L h0 hLf hQ rfl)
                show top ++ rst = top.reverse.reverse ++ rst
                rw [List.reverse_reverse]
        · -- a step
          obtain ⟨g1, g2⟩ := ri_go_ok h2
          exact rs_step hco hao hx hb hown hnm hts hK hN hE hA hrow h1 (fun S' hS' => by
            obtain ⟨o', e1, e2⟩ := g1 S' hS'
            exact room S' o' e1 e2) (fun S' hS' => by
            obtain ⟨o', e1, e2⟩ := g1 S' hS'
            exact next S' o' e1 e2)
