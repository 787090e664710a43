/-! Ghosts: the locals' places from 20 on are never changed -/
def rc_gh (a b : rc_C) : Prop := ∀ (i : Nat) (w : Value), 20 ≤ i → b.2.1[i]? = some (some w) → a.2.1[i]? = some (some w)
theorem rc_gh_rf (a : rc_C) : rc_gh a a := fun _ _ _ h => h
theorem rc_gh_tr {a b c : rc_C} (h1 : rc_gh a b) (h2 : rc_gh b c) : rc_gh a c := fun i w hi h => h1 i w hi (h2 i w hi h)
theorem rc_gh_sto {A A' : List (Option Value)} {k : Nat} {v : Value} (h : rc_sto A A' k v) (hk : k < 20) (i : Nat) (w : Value) (hi : 20 ≤ i) (hw : A'[i]? = some (some w)) : A[i]? = some (some w) := by
  rcases h i w hw with ⟨rfl, -⟩ | ⟨-, h, -⟩
  · omega
  · exact h
section RC59
variable {κ : Nat → ClassId} {r : ri_R} {a : rc_C} {K : rc_C → Prop}
abbrev rc_KG (a : rc_C) (K : rc_C → Prop) : rc_C → Prop := fun b => K b ∧ rc_gh a b
theorem rc_g_iload (h : rc_iload r a K) : rc_iload r a (rc_KG a K) := by
  obtain ⟨h20, x, e, k⟩ := h
  exact ⟨h20, x, e, k, fun _ _ _ g => g⟩
theorem rc_g_aload (h : rc_aload r a K) : rc_aload r a (rc_KG a K) := by
  obtain ⟨h20, x, e, k⟩ := h
  exact ⟨h20, x, e, k, fun _ _ _ g => g⟩
theorem rc_g_lload (h : rc_lload r a K) : rc_lload r a (rc_KG a K) := by
  obtain ⟨h20, x, e, k⟩ := h
  exact ⟨h20, x, e, k, fun _ _ _ g => g⟩
theorem rc_g_istore (hk : r.2.2.1 < 20) (h : rc_istore r a K) : rc_istore r a (rc_KG a K) := by
  obtain ⟨x, st, A', e1, e2, k⟩ := h
  exact ⟨x, st, A', e1, e2, k, rc_gh_sto e2 hk⟩
theorem rc_g_astore (hk : r.2.2.1 < 20) (h : rc_astore r a K) : rc_astore r a (rc_KG a K) := by
  obtain ⟨x, st, A', e1, e2, k⟩ := h
  exact ⟨x, st, A', e1, e2, k, rc_gh_sto e2 hk⟩
theorem rc_g_lstore (hk : r.2.2.1 < 20) (h : rc_lstore r a K) : rc_lstore r a (rc_KG a K) := by
  obtain ⟨x, st, A', e1, e2, k⟩ := h
  exact ⟨x, st, A', e1, e2, k, rc_gh_sto e2 hk⟩
theorem rc_g_push (h : rc_push r a K) : rc_push r a (rc_KG a K) := by
  obtain ⟨z, e, k⟩ := h
  exact ⟨z, e, k, fun _ _ _ g => g⟩
theorem rc_g_bin {f : Int32 → Int32 → Int32} (h : rc_bin f r a K) : rc_bin f r a (rc_KG a K) := by
  obtain ⟨u, v, st, e, k⟩ := h
  exact ⟨u, v, st, e, k, fun _ _ _ g => g⟩
theorem rc_g_bin0 {f : Int32 → Int32 → Int32} (h : rc_bin0 f r a K) : rc_bin0 f r a (rc_KG a K) := by
  obtain ⟨u, v, st, e, e2, k⟩ := h
  exact ⟨u, v, st, e, e2, k, fun _ _ _ g => g⟩
theorem rc_g_un {f : Int32 → Int32} (h : rc_un f r a K) : rc_un f r a (rc_KG a K) := by
  obtain ⟨u, st, e, k⟩ := h
  exact ⟨u, st, e, k, fun _ _ _ g => g⟩
theorem rc_g_lbin {f : Int64 → Int64 → Int64} (h : rc_lbin f r a K) : rc_lbin f r a (rc_KG a K) := by
  obtain ⟨u, v, st, e, k⟩ := h
  exact ⟨u, v, st, e, k, fun _ _ _ g => g⟩
theorem rc_g_br {cnd : Jvm.ClassFile.Cond} {u v : Int32} {st : List Value} (h : rc_br cnd r a K u v st) : rc_br cnd r a (rc_KG a K) u v st := by
  rcases h with ⟨h1, k⟩ | ⟨h1, k⟩
  · exact Or.inl ⟨h1, k, fun _ _ _ g => g⟩
  · exact Or.inr ⟨h1, k, fun _ _ _ g => g⟩
theorem rc_g_getf (h : rc_getf r a K) : rc_getf r a (rc_KG a K) := by
  obtain ⟨q, k, vs, v, st, e1, e2, e3, h⟩ := h
  exact ⟨q, k, vs, v, st, e1, e2, e3, h, fun _ _ _ g => g⟩
theorem rc_g_putf (h : rc_putf r a K) : rc_putf r a (rc_KG a K) := by
  obtain ⟨q, k, vs, v, st, e1, e2, e3, e4, h⟩ := h
  exact ⟨q, k, vs, v, st, e1, e2, e3, e4, h, fun _ _ _ g => g⟩
theorem rc_g_ald {t : Nat} (h : rc_ald κ t r a K) : rc_ald κ t r a (rc_KG a K) := by
  obtain ⟨q, k, n, f, u, st, e1, e2, e3, h⟩ := h
  exact ⟨q, k, n, f, u, st, e1, e2, e3, h, fun _ _ _ g => g⟩
theorem rc_g_lald (h : rc_lald κ r a K) : rc_lald κ r a (rc_KG a K) := by
  obtain ⟨q, k, n, f, u, st, e1, e2, e3, h⟩ := h
  exact ⟨q, k, n, f, u, st, e1, e2, e3, h, fun _ _ _ g => g⟩
theorem rc_g_aald (h : rc_aald κ r a K) : rc_aald κ r a (rc_KG a K) := by
  obtain ⟨q, k, n, t, f, u, st, e1, e2, e3, e4, e5, h⟩ := h
  exact ⟨q, k, n, t, f, u, st, e1, e2, e3, e4, e5, h, fun _ _ _ g => g⟩
theorem rc_g_ast {t : Nat} (h : rc_ast κ t r a K) : rc_ast κ t r a (rc_KG a K) := by
  obtain ⟨q, k, n, f, u, z, st, e1, e2, e3, e4, h⟩ := h
  exact ⟨q, k, n, f, u, z, st, e1, e2, e3, e4, h, fun _ _ _ g => g⟩
theorem rc_g_last (h : rc_last κ r a K) : rc_last κ r a (rc_KG a K) := by
  obtain ⟨q, k, n, f, u, z, st, e1, e2, e3, h⟩ := h
  exact ⟨q, k, n, f, u, z, st, e1, e2, e3, h, fun _ _ _ g => g⟩
theorem rc_g_alen (h : rc_alen κ r a K) : rc_alen κ r a (rc_KG a K) := by
  obtain ⟨q, k, t, x, st, e1, e2, e3, h⟩ := h
  exact ⟨q, k, t, x, st, e1, e2, e3, h, fun _ _ _ g => g⟩
theorem rc_g_acp (h : rc_acp κ r a K) : rc_acp κ r a (rc_KG a K) := by
  obtain ⟨q0, q1, k0, k1, n0, n1, t, f, g, sp, dp, n, st, e1, e2, e3, e4, e5, e6, e7, e8, e9, e10, e11, h⟩ := h
  exact ⟨q0, q1, k0, k1, n0, n1, t, f, g, sp, dp, n, st, e1, e2, e3, e4, e5, e6, e7, e8, e9, e10, e11, h, fun _ _ _ g => g⟩
theorem rc_g_mm {f : Int32 → Int32 → Int32} (h : rc_mm f r a K) : rc_mm f r a (rc_KG a K) := by
  obtain ⟨u, v, st, e, e2, k⟩ := h
  exact ⟨u, v, st, e, e2, k, fun _ _ _ g => g⟩
theorem rc_g_ab (h : rc_ab r a K) : rc_ab r a (rc_KG a K) := by
  obtain ⟨u, st, e, e2, k⟩ := h
  exact ⟨u, st, e, e2, k, fun _ _ _ g => g⟩
set_option maxHeartbeats 4000000 in
theorem rc_wp_gh {mT : List ri_MT} {y : MethodName} {cc : ByteArray} {nL : Nat} {ret : Option FieldType} {pc : Nat} (hrow : ri_rowOK mT y cc nL ret pc r) (hn : nL ≤ 20) (h : rc_wp κ r a K) : rc_wp κ r a (rc_KG a K) := by
  obtain ⟨hd, ho⟩ := hrow
  obtain ⟨i, len, x, z, v⟩ := r
  cases i
  all_goals first | (exact False.elim h; done) | skip
  case aaload => exact rc_g_aald h
  case aload j => exact rc_g_aload h
  case aload_n j => exact rc_g_aload h
  case arraylength => exact rc_g_alen h
  case astore j =>
    obtain ⟨-, -, h3⟩ : len = 2 ∧ j = x ∧ x < nL := ho
    exact rc_g_astore (show x < 20 by omega) h
  case astore_n j =>
    obtain ⟨-, -, h3⟩ : len = 1 ∧ (j : Nat) = x ∧ x < nL := ho
    exact rc_g_astore (show x < 20 by omega) h
  case baload =>
    rcases h with h | h
    · exact Or.inl (rc_g_ald h)
    · exact Or.inr (rc_g_ald h)
  case bastore =>
    rcases h with h | h
    · exact Or.inl (rc_g_ast h)
    · exact Or.inr (rc_g_ast h)
  case bipush n => exact rc_g_push h
  case dup =>
    obtain ⟨w, st, e1, e2, h⟩ := h
    exact ⟨w, st, e1, e2, h, fun _ _ _ g => g⟩
  case dup_x1 =>
    obtain ⟨w, w', st, e1, e2, e3, h⟩ := h
    exact ⟨w, w', st, e1, e2, e3, h, fun _ _ _ g => g⟩
  case dup2 =>
    obtain ⟨w, w', st, e1, e2, e3, h⟩ := h
    exact ⟨w, w', st, e1, e2, e3, h, fun _ _ _ g => g⟩
  case getfield j => exact rc_g_getf h
  case goto o => exact ⟨h, fun _ _ _ g => g⟩
  case i2b => exact rc_g_un h
  case i2c => exact rc_g_un h
  case i2l =>
    obtain ⟨u, st, e1, h⟩ := h
    exact ⟨u, st, e1, h, fun _ _ _ g => g⟩
  case iadd => exact rc_g_bin h
  case iaload => exact rc_g_ald h
  case iand => exact rc_g_bin h
  case iastore => exact rc_g_ast h
  case iconst n => exact rc_g_push h
  case idiv => exact rc_g_bin0 h
  case if_icmp cnd o =>
    obtain ⟨u, w, st, e1, h⟩ := h
    exact ⟨u, w, st, e1, rc_g_br h⟩
  case ifCond cnd o =>
    obtain ⟨u, st, e1, h⟩ := h
    exact ⟨u, st, e1, rc_g_br h⟩
  case iinc j n =>
    obtain ⟨-, -, h2, -⟩ : len = 3 ∧ j = x ∧ x < nL ∧ (Int32.ofInt n).toInt = v := ho
    obtain ⟨h20, u, A', e1, e2, h⟩ := h
    exact ⟨h20, u, A', e1, e2, h, rc_gh_sto e2 h20⟩
  case iload j => exact rc_g_iload h
  case iload_n j => exact rc_g_iload h
  case imul => exact rc_g_bin h
  case ineg => exact rc_g_un h
  case invokestatic j =>
    obtain ⟨hx2, h⟩ := h
    refine ⟨hx2, ?_⟩
    rcases h with ⟨ez, h⟩ | ⟨ez, h⟩ | ⟨ez, h⟩ | ⟨ez, h⟩
    · exact Or.inl ⟨ez, rc_g_acp h⟩
    · exact Or.inr (Or.inl ⟨ez, rc_g_mm h⟩)
    · exact Or.inr (Or.inr (Or.inl ⟨ez, rc_g_mm h⟩))
    · exact Or.inr (Or.inr (Or.inr ⟨ez, rc_g_ab h⟩))
  case ior => exact rc_g_bin h
  case irem => exact rc_g_bin0 h
  case ishl => exact rc_g_bin h
  case ishr => exact rc_g_bin h
  case istore j =>
    obtain ⟨-, -, h3⟩ : len = 2 ∧ j = x ∧ x < nL := ho
    exact rc_g_istore (show x < 20 by omega) h
  case istore_n j =>
    obtain ⟨-, -, h3⟩ : len = 1 ∧ (j : Nat) = x ∧ x < nL := ho
    exact rc_g_istore (show x < 20 by omega) h
  case isub => exact rc_g_bin h
  case iushr => exact rc_g_bin h
  case ladd => exact rc_g_lbin h
  case laload => exact rc_g_lald h
  case lastore => exact rc_g_last h
  case lcmp =>
    obtain ⟨u, w, st, e1, h⟩ := h
    exact ⟨u, w, st, e1, h, fun _ _ _ g => g⟩
  case lconst n => exact ⟨h, fun _ _ _ g => g⟩
  case ldc j => exact rc_g_push h
  case ldc_w j => exact rc_g_push h
  case ldc2_w j => exact fun w hw => ⟨h w hw, fun _ _ _ g => g⟩
  case lload j => exact rc_g_lload h
  case lload_n j => exact rc_g_lload h
  case lmul => exact rc_g_lbin h
  case lookupswitch d ps =>
    obtain ⟨u, st, e1, h⟩ := h
    exact ⟨u, st, e1, h, fun _ _ _ g => g⟩
  case lor => exact rc_g_lbin h
  case lshl =>
    obtain ⟨u, w, st, e1, h⟩ := h
    exact ⟨u, w, st, e1, h, fun _ _ _ g => g⟩
  case lstore j =>
    obtain ⟨-, -, h3⟩ : len = 2 ∧ j = x ∧ x + 1 < nL := ho
    exact rc_g_lstore (show x < 20 by omega) h
  case lstore_n j =>
    obtain ⟨-, -, h3⟩ : len = 1 ∧ (j : Nat) = x ∧ x + 1 < nL := ho
    exact rc_g_lstore (show x < 20 by omega) h
  case pop =>
    obtain ⟨w, st, e1, e2, h⟩ := h
    exact ⟨w, st, e1, e2, h, fun _ _ _ g => g⟩
  case putfield j => exact rc_g_putf h
  case sipush n => exact rc_g_push h
  case tableswitch d lo hi offs =>
    obtain ⟨u, st, e1, h⟩ := h
    refine ⟨u, st, e1, ?_⟩
    rcases h with ⟨e2, h⟩ | ⟨e2, e3, o, e4, h⟩
    · exact Or.inl ⟨e2, h, fun _ _ _ g => g⟩
    · exact Or.inr ⟨e2, e3, o, e4, h, fun _ _ _ g => g⟩
end RC59
