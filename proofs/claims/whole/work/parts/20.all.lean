/-! ALL INSTRUCTIONS: what am_w asks is enough; and many at once -/
section AMO
variable {P : Nat → am_MI} {NM d mi pc len ix wp cb sb : Nat} {lv : am_LV} {st : List Value} {σ : am_S} {Post : Option Value → am_S → Prop} {ins : Instr}
theorem am_go (hP : am_okP P NM) (hok : am_okb P NM (P mi) (pc, ins, len, ix, wp) = true) (h : am_w P d (P mi) ins pc len lv st σ cb sb (fun pc lv st σ cb sb => am_T P d mi pc lv st σ cb sb Post) Post (am_Kc P d)) : am_T P d mi pc lv st σ cb sb Post := by
  cases ins with
  | iconst => exact am_g_iconst hok h
  | bipush => exact am_g_bipush hok h
  | sipush => exact am_g_sipush hok h
  | jsr => exact am_g_jsr hok h
  | lconst => exact am_g_lconst hok h
  | ldc2_w => exact am_g_ldc2_w hok h
  | istore_n => exact am_g_istore_n hok h
  | istore => exact am_g_istore hok h
  | astore_n => exact am_g_astore_n hok h
  | astore => exact am_g_astore hok h
  | lstore_n => exact am_g_lstore_n hok h
  | lstore => exact am_g_lstore hok h
  | iadd => exact am_g_iadd hok h
  | isub => exact am_g_isub hok h
  | imul => exact am_g_imul hok h
  | iand => exact am_g_iand hok h
  | ior => exact am_g_ior hok h
  | idiv => exact am_g_idiv hok h
  | irem => exact am_g_irem hok h
  | ishl => exact am_g_ishl hok h
  | ishr => exact am_g_ishr hok h
  | iushr => exact am_g_iushr hok h
  | ladd => exact am_g_ladd hok h
  | lsub => exact am_g_lsub hok h
  | lmul => exact am_g_lmul hok h
  | land => exact am_g_land hok h
  | lor => exact am_g_lor hok h
  | ldiv => exact am_g_ldiv hok h
  | lrem => exact am_g_lrem hok h
  | lshl => exact am_g_lshl hok h
  | lcmp => exact am_g_lcmp hok h
  | i2l => exact am_g_i2l hok h
  | l2i => exact am_g_l2i hok h
  | i2b => exact am_g_i2b hok h
  | i2s => exact am_g_i2s hok h
  | dup => exact am_g_dup hok h
  | pop => exact am_g_pop hok h
  | dup2 => exact am_g_dup2 hok h
  | ifCond => exact am_g_ifCond hok h
  | if_icmp => exact am_g_if_icmp hok h
  | goto => exact am_g_goto hok h
  | ifnonnull => exact am_g_ifnonnull hok h
  | tableswitch => exact am_g_tableswitch hok h
  | lookupswitch => exact am_g_lookupswitch hok h
  | getfield => exact am_g_getfield hok h
  | putfield => exact am_g_putfield hok h
  | iaload => exact am_g_iaload hok h
  | baload => exact am_g_baload hok h
  | laload => exact am_g_laload hok h
  | aaload => exact am_g_aaload hok h
  | iastore => exact am_g_iastore hok h
  | bastore => exact am_g_bastore hok h
  | lastore => exact am_g_lastore hok h
  | aastore => exact am_g_aastore hok h
  | arraylength => exact am_g_arraylength hok h
  | newarray => exact am_g_newarray hok h
  | anewarray => exact am_g_anewarray hok h
  | new => exact am_g_new hok h
  | return_ => exact am_g_return_ hok h
  | monitorenter => exact am_g_monitorenter hok h
  | ldc => exact am_g_ldc hok h
  | fmul => exact am_g_fmul hok h
  | fadd => exact am_g_fadd hok h
  | fsub => exact am_g_fsub hok h
  | dadd => exact am_g_dadd hok h
  | dsub => exact am_g_dsub hok h
  | iload_n =>
    simp only [am_w] at h
    split at h
    · rename_i hx
      exact am_g_iload_n hok ⟨hx, h⟩
    · exact h.elim
  | iload =>
    simp only [am_w] at h
    split at h
    · rename_i hx
      exact am_g_iload hok ⟨hx, h⟩
    · exact h.elim
  | lload_n =>
    simp only [am_w] at h
    split at h
    · rename_i hx
      exact am_g_lload_n hok ⟨hx, h⟩
    · exact h.elim
  | lload =>
    simp only [am_w] at h
    split at h
    · rename_i hx
      exact am_g_lload hok ⟨hx, h⟩
    · exact h.elim
  | aload_n =>
    simp only [am_w] at h
    split at h
    · rename_i hx
      exact am_g_aload_n hok ⟨hx, h⟩
    · exact h.elim
  | aload =>
    simp only [am_w] at h
    split at h
    · rename_i hx
      exact am_g_aload hok ⟨hx, h⟩
    · exact h.elim
  | iinc =>
    simp only [am_w] at h
    split at h
    · rename_i hx
      exact am_g_iinc hok ⟨hx, h⟩
    · exact h.elim
  | ireturn =>
    simp only [am_w] at h
    split at h
    · exact am_g_ireturn hok h
    · exact h.elim
  | lreturn =>
    simp only [am_w] at h
    split at h
    · exact am_g_lreturn hok h
    · exact h.elim
  | monitorexit =>
    simp only [am_w] at h
    split at h
    · exact am_g_monitorexit hok h
    · exact h.elim
  | invokevirtual => exact am_g_invokevirtual hP hok h
  | invokestatic => exact am_g_invokestatic hP hok h
  | invokespecial => exact am_g_invokespecial hP hok h
  | _ => exact False.elim h
theorem am_find_e {t : List (Nat × Instr × Nat × Nat × Nat)} {q : Nat × Instr × Nat × Nat × Nat} (h : am_find t pc = some q) : q ∈ t ∧ q.1 = pc := by
  induction t with
  | nil => cases h
  | cons x t ih =>
    unfold am_find at h
    split at h
    · rename_i hb
      cases h
      exact ⟨List.mem_cons_self, Nat.eq_of_beq_eq_true hb⟩
    · exact ⟨List.mem_cons_of_mem _ (ih h).1, (ih h).2⟩
theorem am_step (hP : am_okP P NM) (hrow : ∀ q ∈ am_mt (P mi), am_okb P NM (P mi) q = true) {q : Nat × Instr × Nat × Nat × Nat} (hq : am_find (am_mt (P mi)) pc = some q) (h : am_w P d (P mi) q.2.1 q.1 q.2.2.1 lv st σ cb sb (fun pc lv st σ cb sb => am_T P d mi pc lv st σ cb sb Post) Post (am_Kc P d)) : am_T P d mi pc lv st σ cb sb Post := by
  obtain ⟨hm, rfl⟩ := am_find_e hq
  exact am_go hP (hrow q hm) h
end AMO
theorem am_p1i_m {st : List Value} {k k' : Int32 → List Value → Prop} (m : ∀ x r, k x r → k' x r) (h : am_p1i st k) : am_p1i st k' := by
  obtain ⟨x, r, rfl, h⟩ := am_p1i_e h
  exact m x r h
theorem am_p2i_m {st : List Value} {k k' : Int32 → Int32 → List Value → Prop} (m : ∀ x y r, k x y r → k' x y r) (h : am_p2i st k) : am_p2i st k' := by
  obtain ⟨x, y, r, rfl, h⟩ := am_p2i_e h
  exact m x y r h
theorem am_p1l_m {st : List Value} {k k' : Int64 → List Value → Prop} (m : ∀ x r, k x r → k' x r) (h : am_p1l st k) : am_p1l st k' := by
  obtain ⟨x, r, rfl, h⟩ := am_p1l_e h
  exact m x r h
theorem am_p2l_m {st : List Value} {k k' : Int64 → Int64 → List Value → Prop} (m : ∀ x y r, k x y r → k' x y r) (h : am_p2l st k) : am_p2l st k' := by
  obtain ⟨x, y, r, rfl, h⟩ := am_p2l_e h
  exact m x y r h
theorem am_pil_m {st : List Value} {k k' : Int64 → Int32 → List Value → Prop} (m : ∀ x y r, k x y r → k' x y r) (h : am_pil st k) : am_pil st k' := by
  obtain ⟨x, y, r, rfl, h⟩ := am_pil_e h
  exact m x y r h
theorem am_pr_m {st : List Value} {k k' : Nat → List Value → Prop} (m : ∀ x r, k x r → k' x r) (h : am_pr st k) : am_pr st k' := by
  obtain ⟨x, r, rfl, h⟩ := am_pr_e h
  exact m x r h
theorem am_pa_m {st : List Value} {k k' : Nat → Int32 → List Value → Prop} (m : ∀ x y r, k x y r → k' x y r) (h : am_pa st k) : am_pa st k' := by
  obtain ⟨x, y, r, rfl, h⟩ := am_pa_e h
  exact m x y r h
theorem am_pv_m {st : List Value} {k k' : Value → List Value → Prop} (m : ∀ x r, k x r → k' x r) (h : am_pv st k) : am_pv st k' := by
  obtain ⟨x, r, rfl, h⟩ := am_pv_e h
  exact m x r h
theorem am_b_m {b : Bool} {p q : Prop} (m : p → q) (h : am_b b p) : am_b b q := by
  obtain ⟨rfl, h⟩ := am_b_e h
  exact m h
theorem am_swl_m {x : Int32} {K K' : Int → Prop} (m : ∀ t, K t → K' t) : ∀ (l : List Int) (lo : Int), am_swl x lo l K → am_swl x lo l K'
  | [], _, _ => trivial
  | _ :: l, lo, h => ⟨fun q => m _ (h.1 q), am_swl_m m l (lo + 1) h.2⟩
theorem am_lkl_m {x : Int32} {D : Int} {K K' : Int → Prop} (m : ∀ t, K t → K' t) : ∀ (l : List (Int × Int)), am_lkl x l D K → am_lkl x l D K'
  | [], h => m _ h
  | _ :: l, h => ⟨fun q => m _ (h.1 q), fun q => am_lkl_m m l (h.2 q)⟩
theorem am_T_m {P : Nat → am_MI} {d mi pc cb sb : Nat} {lv : am_LV} {st : List Value} {σ : am_S} {Post Post' : Option Value → am_S → Prop} (m : ∀ v σ, Post v σ → Post' v σ) (h : am_T P d mi pc lv st σ cb sb Post) : am_T P d mi pc lv st σ cb sb Post' := by
  intro G p l e R s mm args below meth c H locs cells slots Q ls C h1 h2 h3 h4 h5 h6 h7 h8 h9 hr
  exact h G p l e R s mm args below meth c H locs cells slots Q ls C h1 h2 h3 h4 h5 h6 h7 h8 h9 (fun v σ' pc' ls' H' locs' cells' slots' hp => hr v σ' pc' ls' H' locs' cells' slots' (m v σ' hp))
theorem am_T_d {P : Nat → am_MI} {d d' mi pc cb sb : Nat} {lv : am_LV} {st : List Value} {σ : am_S} {Post : Option Value → am_S → Prop} (hd : d ≤ d') (h : am_T P d mi pc lv st σ cb sb Post) : am_T P d' mi pc lv st σ cb sb Post := by
  intro G p l e R s mm args below meth c H locs cells slots Q ls C h1 h2 h3 h4 h5 h6 h7 h8 h9 hr
  exact h G p l e R s mm args below meth c H locs cells slots Q ls C (by omega) (by omega) h3 h4 h5 h6 h7 h8 h9 hr
theorem am_C_m {P : Nat → am_MI} {d mi cb sb : Nat} {as : List Value} {σ : am_S} {Post Post' : Option Value → am_S → Prop} (h : am_C P d mi as σ cb sb Post) (m : ∀ v σ, Post v σ → Post' v σ) : am_C P d mi as σ cb sb Post' := am_T_m m h
theorem am_C_d {P : Nat → am_MI} {d d' mi cb sb : Nat} {as : List Value} {σ : am_S} {Post : Option Value → am_S → Prop} (h : am_C P d mi as σ cb sb Post) (hd : d ≤ d') : am_C P d' mi as σ cb sb Post := am_T_d hd h
theorem am_Kc_m {P : Nat → am_MI} {d mi mc ms : Nat} {as : List Value} {σ : am_S} {Post Post' : Option Value → am_S → Prop} (m : ∀ v σ, Post v σ → Post' v σ) (h : am_Kc P d mi as σ mc ms Post) : am_Kc P d mi as σ mc ms Post' := by
  cases d with
  | zero => exact h
  | succ d => exact am_C_m h m
section AMW
variable {P : Nat → am_MI} {d dd pc len cb sb : Nat} {M : am_MI} {lv : am_LV} {st : List Value} {σ : am_S} {Post : Option Value → am_S → Prop} {ins : Instr} {K K' : Nat → am_LV → List Value → am_S → Nat → Nat → Prop}
theorem am_w_m (m : ∀ a b c e f g, K a b c e f g → K' a b c e f g) (h : am_w P d M ins pc len lv st σ cb sb K Post (am_Kc P dd)) : am_w P d M ins pc len lv st σ cb sb K' Post (am_Kc P dd) := by
  cases ins with
  | iconst => exact m _ _ _ _ _ _ h
  | bipush => exact m _ _ _ _ _ _ h
  | sipush => exact m _ _ _ _ _ _ h
  | jsr => exact m _ _ _ _ _ _ h
  | lconst => exact m _ _ _ _ _ _ h
  | ldc2_w => exact m _ _ _ _ _ _ h
  | goto => exact m _ _ _ _ _ _ h
  | iadd => exact am_p2i_m (fun _ _ _ q => m _ _ _ _ _ _ q) h
  | isub => exact am_p2i_m (fun _ _ _ q => m _ _ _ _ _ _ q) h
  | imul => exact am_p2i_m (fun _ _ _ q => m _ _ _ _ _ _ q) h
  | iand => exact am_p2i_m (fun _ _ _ q => m _ _ _ _ _ _ q) h
  | ior => exact am_p2i_m (fun _ _ _ q => m _ _ _ _ _ _ q) h
  | ishl => exact am_p2i_m (fun _ _ _ q => m _ _ _ _ _ _ q) h
  | ishr => exact am_p2i_m (fun _ _ _ q => m _ _ _ _ _ _ q) h
  | iushr => exact am_p2i_m (fun _ _ _ q => m _ _ _ _ _ _ q) h
  | idiv => exact am_p2i_m (fun _ _ _ q => ⟨q.1, m _ _ _ _ _ _ q.2⟩) h
  | irem => exact am_p2i_m (fun _ _ _ q => ⟨q.1, m _ _ _ _ _ _ q.2⟩) h
  | ladd => exact am_p2l_m (fun _ _ _ q => m _ _ _ _ _ _ q) h
  | lsub => exact am_p2l_m (fun _ _ _ q => m _ _ _ _ _ _ q) h
  | lmul => exact am_p2l_m (fun _ _ _ q => m _ _ _ _ _ _ q) h
  | land => exact am_p2l_m (fun _ _ _ q => m _ _ _ _ _ _ q) h
  | lor => exact am_p2l_m (fun _ _ _ q => m _ _ _ _ _ _ q) h
  | lcmp => exact am_p2l_m (fun _ _ _ q => m _ _ _ _ _ _ q) h
  | ldiv => exact am_p2l_m (fun _ _ _ q => ⟨q.1, m _ _ _ _ _ _ q.2⟩) h
  | lrem => exact am_p2l_m (fun _ _ _ q => ⟨q.1, m _ _ _ _ _ _ q.2⟩) h
  | dadd => exact am_p2i_m (fun _ _ _ q => am_b_m (m _ _ _ _ _ _) q) h
  | dsub => exact am_p2i_m (fun _ _ _ q => am_b_m (m _ _ _ _ _ _) q) h
  | ldc => exact am_b_m (m _ _ _ _ _ _) h
  | fmul => exact am_p2i_m (fun _ _ _ q => am_b_m (fun q => ⟨q.1, q.2.1, q.2.2.1, q.2.2.2.1, m _ _ _ _ _ _ q.2.2.2.2⟩) q) h
  | fadd => exact am_pr_m (fun _ _ q => am_b_m (m _ _ _ _ _ _) q) h
  | fsub => exact am_pa_m (fun _ _ _ q => am_b_m (fun q => ⟨q.1, m _ _ _ _ _ _ q.2⟩) q) h
  | lshl => exact am_pil_m (fun _ _ _ q => m _ _ _ _ _ _ q) h
  | i2l => exact am_p1i_m (fun _ _ q => m _ _ _ _ _ _ q) h
  | i2b => exact am_p1i_m (fun _ _ q => m _ _ _ _ _ _ q) h
  | i2s => exact am_p1i_m (fun _ _ q => m _ _ _ _ _ _ q) h
  | l2i => exact am_p1l_m (fun _ _ q => m _ _ _ _ _ _ q) h
  | istore_n => exact am_p1i_m (fun _ _ q => am_b_m (m _ _ _ _ _ _) q) h
  | istore => exact am_p1i_m (fun _ _ q => am_b_m (m _ _ _ _ _ _) q) h
  | astore_n => exact am_pr_m (fun _ _ q => am_b_m (m _ _ _ _ _ _) q) h
  | astore => exact am_pr_m (fun _ _ q => am_b_m (m _ _ _ _ _ _) q) h
  | lstore_n => exact am_p1l_m (fun _ _ q => am_b_m (m _ _ _ _ _ _) q) h
  | lstore => exact am_p1l_m (fun _ _ q => am_b_m (m _ _ _ _ _ _) q) h
  | dup => exact am_pv_m (fun _ _ q => am_b_m (m _ _ _ _ _ _) q) h
  | pop => exact am_pv_m (fun _ _ q => am_b_m (m _ _ _ _ _ _) q) h
  | dup2 => exact am_pv_m (fun _ _ q => am_pv_m (fun _ _ q => am_b_m (am_b_m (m _ _ _ _ _ _)) q) q) h
  | ifCond => exact am_p1i_m (fun _ _ q => ⟨fun z => m _ _ _ _ _ _ (q.1 z), fun z => m _ _ _ _ _ _ (q.2 z)⟩) h
  | if_icmp => exact am_p2i_m (fun _ _ _ q => ⟨fun z => m _ _ _ _ _ _ (q.1 z), fun z => m _ _ _ _ _ _ (q.2 z)⟩) h
  | ifnonnull => exact am_pv_m (fun v _ q => by
      cases v with
      | ref => exact m _ _ _ _ _ _ q
      | null => exact m _ _ _ _ _ _ q
      | _ => exact q.elim) h
  | tableswitch => exact am_p1i_m (fun _ _ q => ⟨fun z => m _ _ _ _ _ _ (q.1 z), am_swl_m (fun _ z => m _ _ _ _ _ _ z) _ _ q.2⟩) h
  | lookupswitch => exact am_p1i_m (fun _ _ q => am_lkl_m (fun _ z => m _ _ _ _ _ _ z) _ q) h
  | getfield => exact am_pr_m (fun _ _ q => am_b_m (m _ _ _ _ _ _) q) h
  | iload_n =>
    simp only [am_w] at h ⊢
    split at h
    · exact m _ _ _ _ _ _ h
    · exact h.elim
  | iload =>
    simp only [am_w] at h ⊢
    split at h
    · exact m _ _ _ _ _ _ h
    · exact h.elim
  | lload_n =>
    simp only [am_w] at h ⊢
    split at h
    · exact m _ _ _ _ _ _ h
    · exact h.elim
  | lload =>
    simp only [am_w] at h ⊢
    split at h
    · exact m _ _ _ _ _ _ h
    · exact h.elim
  | aload_n =>
    simp only [am_w] at h ⊢
    split at h
    · exact m _ _ _ _ _ _ h
    · exact h.elim
  | aload =>
    simp only [am_w] at h ⊢
    split at h
    · exact m _ _ _ _ _ _ h
    · exact h.elim
  | iinc =>
    simp only [am_w] at h ⊢
    split at h
    · exact am_b_m (m _ _ _ _ _ _) h
    · exact h.elim
  | putfield =>
    refine am_pv_m (fun v _ q => am_pr_m (fun _ _ q => am_b_m (fun q => ?_) q) q) h
    split at q <;> split at q <;> first | exact q.elim | exact m _ _ _ _ _ _ q | exact am_b_m (m _ _ _ _ _ _) q | exact ⟨q.1, m _ _ _ _ _ _ q.2⟩
  | iaload =>
    refine am_pa_m (fun _ _ _ q => ?_) h
    split at q
    · exact ⟨q.1, m _ _ _ _ _ _ q.2⟩
    · exact am_b_m (fun q => ⟨q.1, m _ _ _ _ _ _ q.2⟩) q
  | baload => exact am_pa_m (fun _ _ _ q => am_b_m (fun q => ⟨q.1, m _ _ _ _ _ _ q.2⟩) q) h
  | laload => exact am_pa_m (fun _ _ _ q => am_b_m (fun q => ⟨q.1, m _ _ _ _ _ _ q.2⟩) q) h
  | aaload => exact am_pa_m (fun _ _ _ q => am_b_m (fun q => ⟨q.1, m _ _ _ _ _ _ q.2⟩) q) h
  | iastore => exact am_p1i_m (fun _ _ q => am_pa_m (fun _ _ _ q => am_b_m (fun q => ⟨q.1, m _ _ _ _ _ _ q.2⟩) q) q) h
  | lastore => exact am_p1l_m (fun _ _ q => am_pa_m (fun _ _ _ q => am_b_m (fun q => ⟨q.1, m _ _ _ _ _ _ q.2⟩) q) q) h
  | bastore =>
    refine am_p1i_m (fun _ _ q => am_pa_m (fun _ _ _ q => ?_) q) h
    split at q
    · exact ⟨q.1, m _ _ _ _ _ _ q.2⟩
    · exact ⟨q.1, m _ _ _ _ _ _ q.2⟩
    · exact q.elim
  | aastore =>
    refine am_pr_m (fun _ _ q => am_pa_m (fun _ _ _ q => am_b_m (fun q => ?_) q) q) h
    split at q
    · exact am_b_m (fun q => ⟨q.1, m _ _ _ _ _ _ q.2⟩) q
    · exact am_b_m (fun q => ⟨q.1, m _ _ _ _ _ _ q.2⟩) q
    · exact q.elim
  | arraylength =>
    refine am_pr_m (fun _ _ q => ?_) h
    split at q
    · obtain ⟨L, q1, q2⟩ := q
      exact ⟨L, q1, m _ _ _ _ _ _ q2⟩
    · exact am_b_m (m _ _ _ _ _ _) q
  | newarray => exact am_p1i_m (fun _ _ q => am_b_m (fun q => ⟨q.1, q.2.1, q.2.2.1, m _ _ _ _ _ _ q.2.2.2⟩) q) h
  | anewarray => exact am_p1i_m (fun _ _ q => am_b_m (fun q => ⟨q.1, q.2.1, q.2.2.1, m _ _ _ _ _ _ q.2.2.2⟩) q) h
  | new => exact am_b_m (fun q => ⟨q.1, q.2.1, m _ _ _ _ _ _ q.2.2⟩) h
  | return_ => exact h
  | ireturn => exact h
  | lreturn => exact h
  | invokevirtual => exact am_b_m (fun q => am_b_m (fun q => am_pr_m (fun _ _ q => am_b_m (fun ⟨a, b, c, e, q⟩ => ⟨a, b, c, e, am_Kc_m (fun _ _ z => m _ _ _ _ _ _ z) q⟩) q) q) q) h
  | invokespecial => exact am_b_m (fun q => am_b_m (fun q => am_pr_m (fun _ _ ⟨a, b, c, e, q⟩ => ⟨a, b, c, e, am_Kc_m (fun _ _ z => m _ _ _ _ _ _ z) q⟩) q) q) h
  | invokestatic => exact am_b_m (fun q => am_b_m (fun ⟨a, b, c, e, q⟩ => ⟨a, b, c, e, am_Kc_m (fun _ _ z => m _ _ _ _ _ _ z) q⟩) q) h
  | monitorenter => exact am_pr_m (fun _ _ q => am_b_m (m _ _ _ _ _ _) q) h
  | monitorexit =>
    simp only [am_w] at h ⊢
    split at h
    · refine am_b_m (fun q => am_b_m (fun ⟨a, b, c, e, f, q⟩ => ⟨a, b, c, e, f, ?_⟩) q) h
      split at q
      · exact m _ _ _ _ _ _ q
      · exact m _ _ _ _ _ _ q
      · exact q.elim
    · exact h.elim
  | _ => exact h
end AMW
/-- k instructions at most; it stops at the places 'cut' -/
def am_run (P : Nat → am_MI) (cut : List Nat) (d mi : Nat) (Post : Option Value → am_S → Prop) : Nat → Nat → am_LV → List Value → am_S → Nat → Nat → Prop
  | 0, pc, lv, st, σ, cb, sb => am_T P d mi pc lv st σ cb sb Post ∧ True
  | k + 1, pc, lv, st, σ, cb, sb => match am_find (am_mt (P mi)) pc with
    | none => False
    | some (p, ins, len, _, _) => am_w P d (P mi) ins p len lv st σ cb sb (fun pc lv st σ cb sb => match cut.any (Nat.beq pc) with
      | true => am_T P d mi pc lv st σ cb sb Post ∧ True
      | false => am_run P cut d mi Post k pc lv st σ cb sb) Post (am_Kc P d)
theorem am_run_rows {P : Nat → am_MI} {NM d mi : Nat} {Post : Option Value → am_S → Prop} (hP : am_okP P NM) (hrow : ∀ q ∈ am_mt (P mi), am_okb P NM (P mi) q = true) (cut : List Nat) : ∀ (k pc : Nat) (lv : am_LV) (st : List Value) (σ : am_S) (cb sb : Nat), am_run P cut d mi Post k pc lv st σ cb sb → am_T P d mi pc lv st σ cb sb Post
  | 0, _, _, _, _, _, _, h => h.1
  | k + 1, pc, lv, st, σ, cb, sb, h => by
    unfold am_run at h
    split at h
    · exact h.elim
    · rename_i p ins len ix wp hq
      refine am_step hP hrow hq (am_w_m (fun pc lv st σ cb sb z => ?_) h)
      split at z
      · exact z.1
      · exact am_run_rows hP hrow cut k pc lv st σ cb sb z
theorem am_run_ok {P : Nat → am_MI} {NM d mi : Nat} {Post : Option Value → am_S → Prop} (hP : am_okP P NM) (hmi : mi < NM) (cut : List Nat) (k pc : Nat) (lv : am_LV) (st : List Value) (σ : am_S) (cb sb : Nat) (h : am_run P cut d mi Post k pc lv st σ cb sb) : am_T P d mi pc lv st σ cb sb Post := am_run_rows hP (hP.2.1 mi hmi) cut k pc lv st σ cb sb h
