/-! What is made only grows -/
def ri_mo (S : ri_S) (L : List ri_S) : Prop := L ≠ [] ∧ ∀ S' ∈ L, S.2.2.2.2.1 ≤ S'.2.2.2.2.1 ∧ S.2.2.2.2.2 ≤ S'.2.2.2.2.2
theorem ri_mo1 {S S' : ri_S} (h1 : S.2.2.2.2.1 ≤ S'.2.2.2.2.1) (h2 : S.2.2.2.2.2 ≤ S'.2.2.2.2.2) : ri_mo S [S'] := ⟨by simp, fun q hq => by
  rw [List.mem_singleton.mp hq]
  exact ⟨h1, h2⟩⟩
theorem ri_mo2 {S S1 S2 : ri_S} (h1 : S.2.2.2.2 = S1.2.2.2.2) (h2 : S.2.2.2.2 = S2.2.2.2.2) : ri_mo S [S1, S2] := ⟨by simp, fun q hq => by
  rcases List.mem_cons.mp hq with rfl | hq
  · rw [h1]
    exact ⟨Nat.le_refl _, Nat.le_refl _⟩
  · rw [List.mem_singleton.mp hq, h2]
    exact ⟨Nat.le_refl _, Nat.le_refl _⟩⟩
section RI14
variable {E : ri_E} {d : ri_D} {r : ri_R} {S : ri_S} {L : List ri_S}
theorem mo_iload (h : ri_iload r S = some L) : ri_mo S L := by
  unfold ri_iload at h
  split at h
  all_goals first | (cases h; done) | (cases h; exact ri_mo1 (Nat.le_refl _) (Nat.le_refl _))
theorem mo_aload (h : ri_aload r S = some L) : ri_mo S L := by
  unfold ri_aload at h
  split at h
  all_goals first | (cases h; done) | (cases h; exact ri_mo1 (Nat.le_refl _) (Nat.le_refl _))
theorem mo_istore (h : ri_istore r S = some L) : ri_mo S L := by
  unfold ri_istore at h
  split at h
  all_goals first | (cases h; done) | (cases h; exact ri_mo1 (Nat.le_refl _) (Nat.le_refl _))
theorem mo_astore (h : ri_astore r S = some L) : ri_mo S L := by
  unfold ri_astore at h
  split at h
  all_goals first | (cases h; done) | (cases h; exact ri_mo1 (Nat.le_refl _) (Nat.le_refl _))
theorem mo_push (h : ri_push r S = some L) : ri_mo S L := by
  unfold ri_push at h
  cases h
  exact ri_mo1 (Nat.le_refl _) (Nat.le_refl _)
theorem mo_bin {f : ri_I → ri_I → Option ri_I} (h : ri_bin f r S = some L) : ri_mo S L := by
  unfold ri_bin at h
  repeat' split at h
  all_goals first | (cases h; done) | (cases h; exact ri_mo1 (Nat.le_refl _) (Nat.le_refl _))
theorem mo_un {f : ri_I → Option ri_I} (h : ri_un f r S = some L) : ri_mo S L := by
  unfold ri_un at h
  repeat' split at h
  all_goals first | (cases h; done) | (cases h; exact ri_mo1 (Nat.le_refl _) (Nat.le_refl _))
theorem mo_dup (h : ri_dup r S = some L) : ri_mo S L := by
  unfold ri_dup at h
  split at h
  · obtain ⟨-, h⟩ := ri_condN h
    cases h
    exact ri_mo1 (Nat.le_refl _) (Nat.le_refl _)
  · cases h
theorem mo_pop (h : ri_pop r S = some L) : ri_mo S L := by
  unfold ri_pop at h
  split at h
  · obtain ⟨-, h⟩ := ri_condN h
    cases h
    exact ri_mo1 (Nat.le_refl _) (Nat.le_refl _)
  · cases h
theorem mo_dupx1 (h : ri_dupx1 r S = some L) : ri_mo S L := by
  unfold ri_dupx1 at h
  split at h
  · obtain ⟨-, h⟩ := ri_condN h
    obtain ⟨-, h⟩ := ri_condN h
    cases h
    exact ri_mo1 (Nat.le_refl _) (Nat.le_refl _)
  · cases h
theorem mo_dup2 (h : ri_dup2 r S = some L) : ri_mo S L := by
  unfold ri_dup2 at h
  split at h
  · obtain ⟨-, h⟩ := ri_condN h
    obtain ⟨-, h⟩ := ri_condN h
    cases h
    exact ri_mo1 (Nat.le_refl _) (Nat.le_refl _)
  · cases h
theorem mo_iinc (h : ri_iinc E r S = some L) : ri_mo S L := by
  unfold ri_iinc at h
  repeat' split at h
  all_goals first | (cases h; done) | (cases h; exact ri_mo1 (Nat.le_refl _) (Nat.le_refl _))
theorem mo_goto (h : ri_goto r S = some L) : ri_mo S L := by
  unfold ri_goto at h
  cases h
  exact ri_mo1 (Nat.le_refl _) (Nat.le_refl _)
theorem mo_br {o : Option Bool} {st : List ri_V} (h : ri_br o r S st = some L) : ri_mo S L := by
  unfold ri_br at h
  split at h
  · cases h
    exact ri_mo1 (Nat.le_refl _) (Nat.le_refl _)
  · cases h
    exact ri_mo1 (Nat.le_refl _) (Nat.le_refl _)
  · cases h
    exact ri_mo2 rfl rfl
theorem mo_if {cnd : Jvm.ClassFile.Cond} (h : ri_if E cnd r S = some L) : ri_mo S L := by
  unfold ri_if at h
  repeat' split at h
  all_goals first | (cases h; done) | exact mo_br h
theorem mo_icmp {cnd : Jvm.ClassFile.Cond} (h : ri_icmp E cnd r S = some L) : ri_mo S L := by
  unfold ri_icmp at h
  repeat' split at h
  all_goals first | (cases h; done) | exact mo_br h
theorem ri_cond2 {α : Type} {b : Bool} {x y : Option α} {z : α} (h : cond b x y = some z) : x = some z ∨ y = some z := by
  cases b with
  | true => exact Or.inl h
  | false => exact Or.inr h
theorem mo_tsw {dd lo hi : Int} {offs : Array Int} (h : ri_tsw E dd lo hi offs S = some L) : ri_mo S L := by
  unfold ri_tsw at h
  split at h
  · split at h
    · rcases ri_cond2 h with h | h
      · cases h
        exact ri_mo1 (Nat.le_refl _) (Nat.le_refl _)
      · rcases ri_cond2 h with h | h
        · cases h
          exact ri_mo1 (Nat.le_refl _) (Nat.le_refl _)
        · obtain ⟨-, h⟩ := ri_cond h rfl
          obtain ⟨-, h⟩ := ri_cond h rfl
          obtain ⟨-, h⟩ := ri_cond h rfl
          split at h
          · cases h
            exact ri_mo1 (Nat.le_refl _) (Nat.le_refl _)
          · cases h
    · cases h
  · cases h
theorem mo_getf (h : ri_getf r S = some L) : ri_mo S L := by
  unfold ri_getf at h
  split at h
  · split at h
    · obtain ⟨-, h⟩ := ri_cond h rfl
      split at h
      · cases h
        exact ri_mo1 (Nat.le_refl _) (Nat.le_refl _)
      · cases h
    · cases h
  · cases h
theorem mo_putf (h : ri_putf E r S = some L) : ri_mo S L := by
  unfold ri_putf at h
  split at h
  · split at h
    · obtain ⟨-, h⟩ := ri_cond h rfl
      obtain ⟨-, h⟩ := ri_cond h rfl
      obtain ⟨-, h⟩ := ri_cond h rfl
      cases h
      exact ri_mo1 (Nat.le_refl _) (Nat.le_refl _)
    · cases h
  · cases h
theorem mo_ald {t1 t2 : Nat} (h : ri_ald E t1 t2 r S = some L) : ri_mo S L := by
  unfold ri_ald at h
  split at h
  · split at h
    · obtain ⟨-, h⟩ := ri_cond h rfl
      obtain ⟨-, h⟩ := ri_cond h rfl
      split at h
      · cases h
        exact ri_mo1 (Nat.le_refl _) (Nat.le_refl _)
      · cases h
    · cases h
  · cases h
theorem mo_ast {t1 t2 : Nat} (h : ri_ast E t1 t2 r S = some L) : ri_mo S L := by
  unfold ri_ast at h
  split at h
  · split at h
    · obtain ⟨-, h⟩ := ri_cond h rfl
      obtain ⟨-, h⟩ := ri_cond h rfl
      split at h
      · obtain ⟨-, h⟩ := ri_cond h rfl
        cases h
        exact ri_mo1 (Nat.le_refl _) (Nat.le_refl _)
      · cases h
    · cases h
  · cases h
theorem mo_aast {oc : Nat → Nat} (h : ri_aast E oc r S = some L) : ri_mo S L := by
  unfold ri_aast at h
  split at h
  · split at h
    · split at h
      · obtain ⟨-, h⟩ := ri_cond h rfl
        obtain ⟨-, h⟩ := ri_cond h rfl
        obtain ⟨-, h⟩ := ri_cond h rfl
        split at h
        · cases h
          exact ri_mo1 (Nat.le_refl _) (Nat.le_refl _)
        · cases h
      · cases h
    · cases h
  · cases h
theorem mo_alen (h : ri_alen r S = some L) : ri_mo S L := by
  unfold ri_alen at h
  split at h
  · split at h
    · obtain ⟨-, h⟩ := ri_cond h rfl
      cases h
      exact ri_mo1 (Nat.le_refl _) (Nat.le_refl _)
    · cases h
  · cases h
theorem mo_new {df : List (List ri_V)} (h : ri_new df r S = some L) : ri_mo S L := by
  unfold ri_new at h
  split at h
  · cases h
    exact ri_mo1 (Nat.le_succ _) (Nat.le_add_right _ _)
  · cases h
theorem mo_newa (h : ri_newa E r S = some L) : ri_mo S L := by
  unfold ri_newa at h
  split at h
  · split at h
    · cases h
      exact ri_mo1 (Nat.le_succ _) (Nat.le_add_right _ _)
    · cases h
  · cases h
theorem mo_multi (h : ri_multi E r S = some L) : ri_mo S L := by
  unfold ri_multi at h
  split at h
  · split at h
    · split at h
      · cases h
        exact ri_mo1 (Nat.le_add_right _ _) (Nat.le_add_right _ _)
      · cases h
    · cases h
  · cases h
theorem mo_acp (h : ri_acp E r S = some L) : ri_mo S L := by
  unfold ri_acp at h
  split at h
  · split at h
    · cases h
    · split at h
      · cases h
      · split at h
        · cases h
        · split at h
          · split at h
            · obtain ⟨-, h⟩ := ri_cond h rfl
              obtain ⟨-, h⟩ := ri_cond h rfl
              split at h
              · cases h
                exact ri_mo1 (Nat.le_refl _) (Nat.le_refl _)
              · cases h
            · cases h
          · cases h
  · cases h
theorem mo_m2 (h : ri_m2 E r S = some L) : ri_mo S L := by
  unfold ri_m2 at h
  split at h
  · exact mo_acp h
  · exact mo_bin h
  · exact mo_bin h
  · cases h
set_option maxHeartbeats 4000000 in
theorem mo_step (h : ri_step E d r S = some L) : ri_mo S L := by
  obtain ⟨i, q⟩ := r
  cases i
  all_goals first | (cases h; done) | exact mo_iload h | exact mo_aload h | exact mo_istore h | exact mo_astore h | exact mo_push h | exact mo_bin h | exact mo_bin (f := fun _ _ => some ri_top) (r := (.iand, q)) h | exact mo_un h | exact mo_dup h | exact mo_pop h | exact mo_dupx1 h | exact mo_dup2 h | exact mo_iinc h | exact mo_goto h | exact mo_if h | exact mo_icmp h | exact mo_tsw h | exact mo_getf h | exact mo_putf h | exact mo_ald h | exact mo_ast h | exact mo_aast h | exact mo_alen h | exact mo_new h | exact mo_newa h | exact mo_multi h
end RI14
def ri_oN (o : ri_O) : Nat := match o with
  | .inl q => q.2.2.1
  | .inr S => S.2.2.2.2.1
def ri_oZ (o : ri_O) : Nat := match o with
  | .inl q => q.2.2.2
  | .inr S => S.2.2.2.2.2
def ri_ge (N Z : Nat) (outs : List ri_O) : Prop := outs ≠ [] ∧ ∀ o ∈ outs, N ≤ ri_oN o ∧ Z ≤ ri_oZ o
theorem ri_ge_le {N Z N' Z' : Nat} {outs : List ri_O} (h : ri_ge N' Z' outs) (h1 : N ≤ N') (h2 : Z ≤ Z') : ri_ge N Z outs := ⟨h.1, fun o ho => ⟨Nat.le_trans h1 (h.2 o ho).1, Nat.le_trans h2 (h.2 o ho).2⟩⟩
/-- each state that it goes on with, and what comes of it -/
theorem ri_go_ok {f : ri_S → Option (List ri_O)} {L : List ri_S} {outs : List ri_O} (h : ri_go f L = some outs) : (∀ S' ∈ L, ∃ o', f S' = some o' ∧ ∀ o ∈ o', o ∈ outs) ∧ ∀ o ∈ outs, ∃ S' ∈ L, ∃ o', f S' = some o' ∧ o ∈ o' := by
  unfold ri_go at h
  split at h
  · cases h
  · rename_i a t
    split at h
    · exact ⟨fun S' hS' => by rw [List.mem_singleton.mp hS']; exact ⟨outs, h, fun _ q => q⟩, fun o ho => ⟨a, List.mem_singleton.mpr rfl, outs, h, ho⟩⟩
    · rename_i b u
      split at h
      · unfold ri_two at h
        split at h
        · cases h
        · rename_i x hx
          split at h
          · cases h
          · rename_i y hy
            cases h
            refine ⟨fun S' hS' => ?_, fun o ho => ?_⟩
            · rcases List.mem_cons.mp hS' with rfl | hS'
              · exact ⟨x, hx, fun _ q => List.mem_append_left _ q⟩
              · rw [List.mem_singleton.mp hS']
                exact ⟨y, hy, fun _ q => List.mem_append_right _ q⟩
            · rcases List.mem_append.mp ho with ho | ho
              · exact ⟨a, List.mem_cons_self, x, hx, ho⟩
              · exact ⟨b, List.mem_cons_of_mem _ (List.mem_singleton.mpr rfl), y, hy, ho⟩
      · cases h
def ri_psh (o : Option ri_V) (st : List ri_V) : List ri_V := match o with
  | some v => v :: st
  | none => st
theorem ri_each_ok {f : ri_S → Option (List ri_O)} {pc : Nat} {ls : List (Option ri_V)} {st : List ri_V} {N Z : Nat} : ∀ {l : List ri_O} {outs : List ri_O}, ri_each f pc ls st N Z l = some outs → (∀ o ∈ l, ∃ q, o = .inl q ∧ q.2.2.1 = N ∧ q.2.2.2 = Z ∧ ∃ o', f (pc, ls, ri_psh q.1 st, q.2) = some o' ∧ ∀ x ∈ o', x ∈ outs) ∧ ∀ x ∈ outs, ∃ q, .inl q ∈ l ∧ ∃ o', f (pc, ls, ri_psh q.1 st, q.2) = some o' ∧ x ∈ o'
  | [], outs, h => by cases h
  | .inr _ :: t, outs, h => by cases h
  | .inl q :: [], outs, h => by
    have h : cond (Nat.beq q.2.2.1 N) (cond (Nat.beq q.2.2.2 Z) (f (pc, ls, ri_psh q.1 st, q.2)) none) none = some outs := h
    obtain ⟨c1, h⟩ := ri_cond h rfl
    obtain ⟨c2, h⟩ := ri_cond h rfl
    exact ⟨fun o ho => by rw [List.mem_singleton.mp ho]; exact ⟨q, rfl, Nat.eq_of_beq_eq_true c1, Nat.eq_of_beq_eq_true c2, outs, h, fun _ g => g⟩, fun x hx => ⟨q, List.mem_singleton.mpr rfl, outs, h, hx⟩⟩
  | .inl q :: b :: t, outs, h => by
    have h : cond (Nat.beq q.2.2.1 N) (cond (Nat.beq q.2.2.2 Z) (match f (pc, ls, ri_psh q.1 st, q.2) with
      | none => none
      | some x => (match ri_each f pc ls st N Z (b :: t) with
        | none => none
        | some y => some (x ++ y))) none) none = some outs := h
    obtain ⟨c1, h⟩ := ri_cond h rfl
    obtain ⟨c2, h⟩ := ri_cond h rfl
    cases hx : f (pc, ls, ri_psh q.1 st, q.2) with
    | none => rw [hx] at h; cases h
    | some x =>
      cases hy : ri_each f pc ls st N Z (b :: t) with
      | none => rw [hx, hy] at h; cases h
      | some y =>
        rw [hx, hy] at h
        cases h
        obtain ⟨i1, i2⟩ := ri_each_ok hy
        refine ⟨fun o ho => ?_, fun z hz => ?_⟩
        · rcases List.mem_cons.mp ho with rfl | ho
          · exact ⟨q, rfl, Nat.eq_of_beq_eq_true c1, Nat.eq_of_beq_eq_true c2, x, hx, fun _ g => List.mem_append_left _ g⟩
          · obtain ⟨q', e1, e2, e3, o', e4, e5⟩ := i1 o ho
            exact ⟨q', e1, e2, e3, o', e4, fun z g => List.mem_append_right _ (e5 z g)⟩
        · rcases List.mem_append.mp hz with hz | hz
          · exact ⟨q, List.mem_cons_self, x, hx, hz⟩
          · obtain ⟨q', e1, o', e2, e3⟩ := i2 z hz
            exact ⟨q', List.mem_cons_of_mem _ e1, o', e2, e3⟩
