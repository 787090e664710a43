/-! A method by its cuts: the contract holds -/
section RT64
variable {l : Launch} {D : va_G} {KK : List (List rt_K)} {κ : Nat → ClassId} {K ad : List Nat} {Φ : Nat → Int → va_W → Prop} {MX : rt_X} {SW : rt_W} {CS : List rt_Co} {SP : rt_SP}
theorem rc_At_loc {p : Program} {e : Env} {R : Room} {s : State} {m : MethodId} {args : Array Value} {below : List Frame} {meth : Method} {c : Code} {nL : Nat} {A : Nat → Prop} {H0 : Heap} {Q : State → Prop} {b : rc_C} {V : List (Option Value)} (h : ∀ (i : Nat) (v : Value), i < 20 → V[i]? = some (some v) → b.2.1[i]? = some (some v)) (k : rc_At p l e R s m args below meth c nL D A H0 Q (b.1, V, b.2.2.1, b.2.2.2)) : rc_At p l e R s m args below meth c nL D A H0 Q b := by
  intro H locs ls hP hD hS hL
  obtain ⟨lv, h1, h2⟩ := hL
  exact k H locs ls hP hD hS ⟨lv, h1, fun i v hi hv => h2 i v hi (h i v hi hv)⟩
/-- the post, at an end -/
theorem rt_rp1_ok (hSW : rt_SWok KK κ K ad Φ SW) {L : Nat} {v : Option rt_V} {S : rt_S} {P : rt_Po} (h : rt_rp1 SW L v S P = true) {ws : va_W} {t1 : Int} {b : rc_C} {ov : Option Value} (hst : rt_st S = v.toList) (hb : b.2.2.1 = ov.toList) (hr : rt_rl KK κ K ad ws Φ t1 S b) {ν0 : List Nat} (hg : ∀ (j : Nat) (w : Value), b.2.1[20 + L + j]? = some (some w) → ∃ q, ν0[j]? = some q ∧ w = .ref q) : rt_post KK κ K ad Φ t1 ν0 P ws ov b.2.2.2 := by
  unfold rt_rp1 at h
  obtain ⟨τ, ν, lm, r1, r2, r3, r4, r5, r6⟩ := hr
  cases hsw : rt_sw SW S.2.1.1 P.1.1 with
  | none => rw [hsw] at h; cases h
  | some r =>
    rw [hsw] at h
    obtain ⟨c1, h2⟩ := rt_cnd h
    obtain ⟨c2, h3⟩ := rt_cnd h2
    obtain ⟨c3, c4⟩ := rt_cnd h3
    have c2 := Nat.le_of_ble_eq_true c2
    refine ⟨hSW _ _ r hsw ws t1 S.2.1.2 P.1.2 b.2.2.2 S.2.2.1 τ ν lm (rt_ov S) c2 r3 r6 c1 r2, ?_, ?_⟩
    · rw [hst, hb] at r5
      unfold rt_ansT at c3
      cases v with
      | none =>
        have e0 := rt_gS_nil r5
        cases hT : P.2.1 with
        | none =>
          cases ov with
          | none => rfl
          | some w => cases e0
        | some T => rw [hT] at c3; cases c3
      | some x =>
        cases hT : P.2.1 with
        | none => rw [hT] at c3; cases c3
        | some T =>
          rw [hT] at c3
          obtain ⟨w, m0, e1, e2, e3⟩ := rt_gS_cons r5
          cases ov with
          | none => cases e1
          | some w' =>
            have e1 : [w'] = w :: m0 := e1
            cases e1
            exact ⟨w, rfl, rt_is_ok r3.1 c3 e2⟩
    · intro x hx
      have hx := rt_slots_ok c4 x hx
      unfold rt_slot1 at hx
      rw [ri_nth_eq] at hx
      rcases hl : (rt_lo S)[Nat.add (Nat.add 20 L) x.1]? with _ | _ | _ | q | _
      · rw [hl] at hx; cases hx
      · rw [hl] at hx; cases hx
      · rw [hl] at hx; cases hx
      · rw [hl] at hx
        have hx : (match (generalizing := false) rt_og (rt_ov S) q.2 (0, .ofNat x.2.1) with
          | some w => rt_is (rt_E S) w x.2.2
          | none => false) = true := hx
        cases ho : rt_og (rt_ov S) q.2 (0, .ofNat x.2.1) with
        | none => rw [ho] at hx; cases hx
        | some w =>
          rw [ho] at hx
          have hx : rt_is (rt_E S) w x.2.2 = true := hx
          obtain ⟨j, q1, i, e, bb, u, o1, o2, o3, o4, o5, o6, o7⟩ := r6 _ (rt_og_mem ho)
          obtain ⟨w0, l1, p, rfl, l2, l3⟩ := r4 _ _ hl
          obtain ⟨q2, g1, g2⟩ := hg x.1 _ l1
          cases g2
          have o1 : q.2 = j + 1 := o1
          have o4 : rt_bs τ 0 = some bb := o4
          have hbb : bb = 0 := (Option.some.inj o4).symm
          subst hbb
          have o6 : rt_sl e ((0 : Int) + (x.2.1 : Int)).toNat = some u := o6
          have ei : ((0 : Int) + (x.2.1 : Int)).toNat = x.2.1 := by omega
          rw [ei] at o6
          rcases l3 with l3 | ⟨j', l4, l5⟩
          · omega
          · have : j' = j := by omega
            subst this
            have : p = q1 := Option.some.inj (l5.symm.trans o2)
            subst this
            exact ⟨p, i, e, u, g1, o3, o6, rt_is_ok r3.1 hx o7⟩
      · rw [hl] at hx; cases hx
set_option maxHeartbeats 1000000 in
theorem rt_chk_ok (hcx : rt_ctx KK K ad Φ) (hMC : rt_MCok l D κ SP.2) (hMX : rt_MXok KK κ K ad Φ MX) (hSW : rt_SWok KK κ K ad Φ SW) (hCS : ∀ C ∈ CS, rt_Con l D KK κ K ad Φ C) {n : Nat} {it : rt_It} (h : rt_chk KK MX SW CS SP n it = true) : rt_Con l D KK κ K ad Φ it.1 := by
  unfold rt_chk at h
  cases hw : ri_nth mt it.1.1.1 with
  | none => rw [hw] at h; cases h
  | some w =>
    rw [hw] at h
    obtain ⟨c1, h2⟩ := rt_cnd h
    obtain ⟨c2, h3⟩ := rt_cnd h2
    obtain ⟨c3, h4⟩ := rt_cnd h3
    obtain ⟨hE, h5⟩ := rt_cnd h4
    have c1 := Nat.le_of_ble_eq_true c1
    have c2 := Nat.le_of_ble_eq_true c2
    have c3 := Nat.le_of_ble_eq_true c3
    rw [ri_len_eq] at c3
    rw [ri_nth_eq] at hw
    have hC := rt_cuts_ok h5
    clear h h2 h3 h4 h5
    intro t1 τ0 ν0 lm0
    have hrun := rt_run_ok (SP := SP) hcx hMC hMX hCS n
    have hnL : ∀ (y : MethodName) (cc : ByteArray) (nL : Nat) (ret : Option FieldType), mT[it.1.1.1]? = some (y, cc, nL, ret) → w.2 = nL := fun y cc nL ret hm => by
      obtain ⟨-, -, -, -, ⟨wq, hwq, hwn⟩, -⟩ := tab_all _ y cc nL ret hm
      have : wq = w := Option.some.inj (hwq.symm.trans hw)
      subst this
      exact hwn
    refine rc_body (fun vs _ => rc_pad 20 (rc_en vs) ++ (List.replicate it.2.2.1.length none ++ (ν0.take it.2.1).map (fun q => some (.ref q)))) ?_ ?_ ?_
    · rintro vs ws ⟨-, -, -, -, hlen⟩ i v hi hv
      rw [List.getElem?_append_left (by rw [rc_pad_len (by omega)]; exact hi)] at hv
      exact rc_pad_at hv
    · rintro y cc nL ret hm vs ws ⟨-, -, -, -, hlen⟩
      have := hnL y cc nL ret hm
      omega
    · rintro y cc nL ret hm ws vs ⟨hh, hN, hL, hO, hlen⟩ p e s m below meth c B
      have hn20 : nL ≤ 20 := by
        have := hnL y cc nL ret hm
        omega
      have had : ri_ad ws = ad := hh.1
      have hpl : (rc_pad 20 (rc_en vs)).length = 20 := rc_pad_len (by omega)
      have hAv : ∀ (j : Nat) (w : Value), (rc_pad 20 (rc_en vs) ++ (List.replicate it.2.2.1.length none ++ (ν0.take it.2.1).map (fun q => some (.ref q))))[20 + it.2.2.1.length + j]? = some (some w) → ∃ q, ν0[j]? = some q ∧ w = .ref q := fun j w hj => by
        rw [List.getElem?_append_right (by rw [hpl]; omega), hpl, List.getElem?_append_right (by rw [List.length_replicate]; omega), List.length_replicate, show 20 + it.2.2.1.length + j - 20 - it.2.2.1.length = j by omega, List.getElem?_map] at hj
        cases hq : (ν0.take it.2.1)[j]? with
        | none => rw [hq] at hj; cases hj
        | some q =>
          rw [hq] at hj
          cases hj
          rw [List.getElem?_take] at hq
          split at hq
          · exact ⟨q, hq, rfl⟩
          · cases hq
      have ret_ok : ∀ (v : Option rt_V) (S' : rt_S) (b : rc_C) (ov : Option Value), rt_ret SW (ri_len it.2.2.1) it.1.2.2.2 v S' = true → rt_st S' = v.toList → b.2.2.1 = ov.toList → rt_rl KK κ K ad ws Φ t1 S' b → (∀ (j : Nat) (w : Value), b.2.1[20 + it.2.2.1.length + j]? = some (some w) → ∃ q, ν0[j]? = some q ∧ w = .ref q) → ∃ P ∈ it.1.2.2.2, rt_post KK κ K ad Φ t1 ν0 P ws ov b.2.2.2 := fun v S' b ov hr1 h2 h3 h4 h5 => by
        obtain ⟨P, hP, hp⟩ := rt_ret_ok hr1
        rw [ri_len_eq] at hp
        exact ⟨P, hP, rt_rp1_ok hSW hp h2 h3 h4 h5⟩
      have main : ∀ (N : Nat), ∀ q ∈ it.2.2.2, ∀ (zs : List Int32) (b : rc_C), rt_enc it.2.2.1 zs < N → zs.length = it.2.2.1.length → rt_rl KK κ K ad ws Φ t1 (rt_start q) b → (∀ (j : Nat) (z : Int32), zs[j]? = some z → b.2.1[20 + j]? = some (some (.int z))) → (∀ (j : Nat) (w : Value), b.2.1[20 + it.2.2.1.length + j]? = some (some w) → ∃ q, ν0[j]? = some q ∧ w = .ref q) → rc_AB p l e s m vs.toArray below meth c nL D ws (MQ below (rc_Q D ws s.heap.size (fun ov ws' => ∃ P ∈ it.1.2.2.2, rt_post KK κ K ad Φ t1 ν0 P ws ov ws')) vs.toArray s 0 0 (va_A ws s.heap.size)) it.1.1.2 b := by
        intro N
        induction N with
        | zero => intro q _ zs b h0; omega
        | succ N ih =>
          intro q hq zs b hz hzl hrl hzs hgh
          obtain ⟨-, -, hr1⟩ := hC q hq
          refine hrun it.1.1.2 it.1.1.1 _ _ _ _ _ hr1 c2 y cc nL ret hm hn20 p e s m _ below meth c ws B _ had ws t1 b hrl (fun S' b' k1 k2 k3 => ?_) (fun v S' b' ov k1 k2 k3 k4 k5 => ret_ok v S' b' ov k1 k2 k3 k4 (fun j w hj => hgh j w (k5 _ w (by omega) hj)))
          obtain ⟨q', hq', ha⟩ := rt_arr_ok k1
          obtain ⟨m1, m2, -⟩ := hC q' hq'
          obtain ⟨zs', V, a1, a2, a3, a4, a5⟩ := rt_arr1_ok hSW ha m1 m2 k2
          have hlt := a5 rfl zs (fun j v hj hv => by
            have hv2 := k3 _ v (by omega) hv
            obtain ⟨z, hz'⟩ : ∃ z, zs[j]? = some z := ⟨zs[j]'(by omega), List.getElem?_eq_getElem (by omega)⟩
            have := hzs j z hz'
            rw [hv2] at this
            cases this
            exact ⟨z, hz', rfl⟩)
          exact rc_At_loc (fun i v hi hv => a4 i v (Or.inl hi) hv) (ih q' hq' zs' (b'.1, V, b'.2.2.1, b'.2.2.2) (by omega) a2 a1 a3 (fun j w hj => hgh j w (k3 _ w (by omega) (a4 _ w (Or.inr (by omega)) hj))))
      obtain ⟨hP1, hP2⟩ := rt_gL_pad hL hlen.symm 20
      have hgN : rt_gL τ0 ν0 lm0 K ad (rt_ghN it.1.2.2.1.1.2.1 0 it.2.1) ((ν0.take it.2.1).map (fun q => some (.ref q))) := fun i x hx => by
        obtain ⟨g1, k, g2, rfl⟩ := rt_ghN_at hx
        obtain ⟨q, g3, g4⟩ := hN.2.1.2 i k g2
        refine ⟨.ref q, ?_, q, rfl, g4, Or.inr ⟨i, by omega, g3⟩⟩
        rw [List.getElem?_map, List.getElem?_take, if_pos g1, g3]
        rfl
      have hrl0 : rt_rl KK κ K ad ws Φ t1 (rt_ent it) (0, rc_pad 20 (rc_en vs) ++ (List.replicate it.2.2.1.length none ++ (ν0.take it.2.1).map (fun q => some (.ref q))), [], ws) := by
        refine ⟨τ0, ν0, lm0, rfl, hh, hN, ?_, trivial, hO⟩
        refine rt_gL_app hP1 (rt_gL_app ?_ hgN ?_) hP2
        · rw [rt_non_eq]
          exact rt_gL_non _ _
        · rw [rt_non_eq, List.length_replicate, List.length_replicate, ri_len_eq]
      refine hrun it.1.1.2 it.1.1.1 _ _ _ _ _ hE c2 y cc nL ret hm hn20 p e s m _ below meth c ws B _ had ws t1 _ hrl0 (fun S' b' k1 k2 k3 => ?_) (fun v S' b' ov k1 k2 k3 k4 k5 => ret_ok v S' b' ov k1 k2 k3 k4 (fun j w hj => hAv j w (k5 _ w (by omega) hj)))
      obtain ⟨q', hq', ha⟩ := rt_arr_ok k1
      obtain ⟨m1, m2, -⟩ := hC q' hq'
      obtain ⟨zs', V, a1, a2, a3, a4, -⟩ := rt_arr1_ok hSW ha m1 m2 k2
      exact rc_At_loc (fun i v hi hv => a4 i v (Or.inl hi) hv) (main _ q' hq' zs' (b'.1, V, b'.2.2.1, b'.2.2.2) (Nat.lt_succ_self _) a2 a1 a3 (fun j w hj => hAv j w (k3 _ w (by omega) (a4 _ w (Or.inr (by omega)) hj))))
end RT64
