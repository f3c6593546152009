/-! the simulation -/
set_option maxHeartbeats 2000000 in
theorem sim_succ {G : SG} {n : Nat} (ih : SimP G n) : SimP G (n + 1) := by
  intro y pc ls st μ r h hI hl hs p l e R s m args below meth c Q H locs cells slots cE sE A hC hR hP hL hA hlen hrm e1 e2 e3 e4
  have h : run1 (qX n) y (pstep y pc ls st μ) = some r := h
  unfold pstep at h
  cases ho : ins y pc with
  | none => rw [ho] at h; cases h
  | some o =>
    rw [ho] at h
    have X : Ctx G n y ls st μ r p l e R s m args below meth c Q H locs cells slots cE sE A := ⟨ih, hI, hl, hs, hC, hR, hP, hL, hA, hlen, hrm, e1, e2, e3, e4⟩
    obtain ⟨hy, i, len, hd, ht⟩ := ins_dec ho
    have hdp := dp_at ho
    have hsw := sw_at ho
    have htt := ht
    clear ho
    unfold trI at ht
    split at ht
    · split at ht
      · rename_i hk
        obtain ⟨rfl, rfl⟩ := rg_some ht
        exact si_iconst hk X hd h
      · cases ht
    · split at ht
      · rename_i hk
        obtain ⟨rfl, rfl⟩ := rg_some ht
        exact si_bipush hk X hd h
      · cases ht
    · split at ht
      · rename_i hk
        obtain ⟨rfl, rfl⟩ := rg_some ht
        exact si_sipush hk X hd h
      · cases ht
    · obtain ⟨rfl, rfl⟩ := rg_some ht
      exact si_lconst X hd h
    · split at ht
      · rename_i hk
        obtain ⟨rfl, rfl⟩ := rg_some ht
        exact si_ldci hk X hd h
      · rename_i hk
        obtain ⟨rfl, rfl⟩ := rg_some ht
        exact si_ldcf hk X hd h
      · cases ht
    · split at ht
      · rename_i hk
        obtain ⟨rfl, rfl⟩ := rg_some ht
        exact si_ldcl hk X hd h
      · cases ht
    · obtain ⟨rfl, rfl⟩ := rg_some ht
      exact si_null X hd h
    · obtain ⟨rfl, rfl⟩ := rg_some ht
      exact si_iload X hd h
    · obtain ⟨rfl, rfl⟩ := rg_some ht
      exact si_iload_n X hd h
    · obtain ⟨rfl, rfl⟩ := rg_some ht
      exact si_lload X hd h
    · obtain ⟨rfl, rfl⟩ := rg_some ht
      exact si_lload_n X hd h
    · obtain ⟨rfl, rfl⟩ := rg_some ht
      exact si_fload X hd h
    · obtain ⟨rfl, rfl⟩ := rg_some ht
      exact si_fload_n X hd h
    · obtain ⟨rfl, rfl⟩ := rg_some ht
      exact si_aload X hd h
    · obtain ⟨rfl, rfl⟩ := rg_some ht
      exact si_aload_n X hd h
    · obtain ⟨rfl, rfl⟩ := rg_some ht
      exact si_istore X hd h
    · obtain ⟨rfl, rfl⟩ := rg_some ht
      exact si_istore_n X hd h
    · obtain ⟨rfl, rfl⟩ := rg_some ht
      exact si_lstore X hd h
    · obtain ⟨rfl, rfl⟩ := rg_some ht
      exact si_lstore_n X hd h
    · obtain ⟨rfl, rfl⟩ := rg_some ht
      exact si_fstore X hd h
    · obtain ⟨rfl, rfl⟩ := rg_some ht
      exact si_fstore_n X hd h
    · obtain ⟨rfl, rfl⟩ := rg_some ht
      exact si_astore X hd h
    · obtain ⟨rfl, rfl⟩ := rg_some ht
      exact si_astore_n X hd h
    · split at ht
      · rename_i hk
        obtain ⟨rfl, rfl⟩ := rg_some ht
        exact si_iinc (rng_in hk) X hd h
      · cases ht
    · obtain ⟨rfl, rfl⟩ := rg_some ht
      exact si_iadd X hd h
    · obtain ⟨rfl, rfl⟩ := rg_some ht
      exact si_isub X hd h
    · obtain ⟨rfl, rfl⟩ := rg_some ht
      exact si_imul X hd h
    · obtain ⟨rfl, rfl⟩ := rg_some ht
      exact si_idiv X hd h
    · obtain ⟨rfl, rfl⟩ := rg_some ht
      exact si_irem X hd h
    · obtain ⟨rfl, rfl⟩ := rg_some ht
      exact si_iand X hd h
    · obtain ⟨rfl, rfl⟩ := rg_some ht
      exact si_lsub X hd h
    · obtain ⟨rfl, rfl⟩ := rg_some ht
      exact si_land X hd h
    · obtain ⟨rfl, rfl⟩ := rg_some ht
      exact si_lor X hd h
    · obtain ⟨rfl, rfl⟩ := rg_some ht
      exact si_lshl X hd h
    · obtain ⟨rfl, rfl⟩ := rg_some ht
      exact si_lushr X hd h
    · obtain ⟨rfl, rfl⟩ := rg_some ht
      exact si_lcmp X hd h
    · obtain ⟨rfl, rfl⟩ := rg_some ht
      exact si_fadd X hd h
    · obtain ⟨rfl, rfl⟩ := rg_some ht
      exact si_fmul X hd h
    · obtain ⟨rfl, rfl⟩ := rg_some ht
      exact si_fdiv X hd h
    · obtain ⟨rfl, rfl⟩ := rg_some ht
      exact si_i2f X hd h
    · obtain ⟨rfl, rfl⟩ := rg_some ht
      exact si_f2i X hd h
    · obtain ⟨rfl, rfl⟩ := rg_some ht
      exact si_i2l X hd h
    · obtain ⟨rfl, rfl⟩ := rg_some ht
      exact si_l2i X hd h
    · rename_i cnd off
      split at ht
      · rename_i hk
        obtain ⟨rfl, rfl⟩ := rg_some ht
        cases cnd
        · exact si_ifeq hk X hd h
        · exact si_ifne hk X hd h
        · exact si_iflt hk X hd h
        · exact si_ifge hk X hd h
        · exact si_ifgt hk X hd h
        · exact si_ifle hk X hd h
      · cases ht
    · rename_i cnd off
      split at ht
      · rename_i hk
        obtain ⟨rfl, rfl⟩ := rg_some ht
        cases cnd
        · exact si_icmpeq hk X hd h
        · exact si_icmpne hk X hd h
        · exact si_icmplt hk X hd h
        · exact si_icmpge hk X hd h
        · exact si_icmpgt hk X hd h
        · exact si_icmple hk X hd h
      · cases ht
    · split at ht
      · rename_i hk
        obtain ⟨rfl, rfl⟩ := rg_some ht
        exact si_goto hk X hd h
      · cases ht
    · split at ht
      · rename_i hk
        obtain ⟨rfl, rfl⟩ := rg_some ht
        exact si_ifnull hk X hd h
      · cases ht
    · split at ht
      · rename_i hk
        obtain ⟨rfl, rfl⟩ := rg_some ht
        exact si_ifnonnull hk X hd h
      · cases ht
    · split at ht
      · rename_i hk
        cases ht
        exact si_tsw hk (by simpa [swB] using hsw) X hd h
      · cases ht
    · split at ht
      · rename_i hk
        cases ht
        exact si_lsw hk (by simpa [swB] using hsw) X hd h
      · cases ht
    · split at ht
      · rename_i hk
        obtain ⟨rfl, rfl⟩ := rg_some ht
        exact si_get hk X hd h
      · cases ht
    · split at ht
      · rename_i hk
        split at ht
        · rename_i hf
          obtain ⟨rfl, rfl⟩ := rg_some ht
          exact si_put hk hf X hd h
        · cases ht
      · cases ht
    · split at ht
      · rename_i hk
        split at ht
        · rename_i hf
          obtain ⟨rfl, rfl⟩ := rg_some ht
          exact si_call (Or.inl ⟨rfl, hf⟩) hk (by simpa [dpB] using hdp) X hd h
        · cases ht
      · cases ht
    · split at ht
      · rename_i hk
        split at ht
        · rename_i hf
          obtain ⟨rfl, rfl⟩ := rg_some ht
          exact si_call (Or.inr (Or.inl ⟨rfl, hf⟩)) hk (by simpa [dpB] using hdp) X hd h
        · cases ht
      · split at ht
        · rename_i hk
          obtain ⟨rfl, rfl⟩ := rg_some ht
          exact si_obj hk (by simpa [dpB] using hdp) X hd h
        · cases ht
    · split at ht
      · rename_i hk
        split at ht
        · rename_i hf
          obtain ⟨rfl, rfl⟩ := rg_some ht
          exact si_call (Or.inr (Or.inr ⟨rfl, hf⟩)) hk (by simpa [dpB] using hdp) X hd h
        · cases ht
      · split at ht
        · rename_i hk
          obtain ⟨rfl, rfl⟩ := rg_some ht
          exact si_cpy hk (by simpa [dpB] using hdp) X hd h
        · cases ht
    · split at ht
      · rename_i hk
        obtain ⟨rfl, rfl⟩ := rg_some ht
        exact si_new hk X hd h
      · cases ht
    · obtain ⟨rfl, rfl⟩ := rg_some ht
      exact si_newa (Or.inl ⟨rfl, rfl⟩) X hd h
    · obtain ⟨rfl, rfl⟩ := rg_some ht
      exact si_newa (Or.inr (Or.inl ⟨rfl, rfl⟩)) X hd h
    · obtain ⟨rfl, rfl⟩ := rg_some ht
      exact si_newa (Or.inr (Or.inr ⟨rfl, rfl⟩)) X hd h
    · split at ht
      · rename_i hk
        obtain ⟨rfl, rfl⟩ := rg_some ht
        exact si_anew hk X hd h
      · cases ht
    · split at ht
      · rename_i hk
        split at ht
        · rename_i hf
          subst hf
          obtain ⟨rfl, rfl⟩ := rg_some ht
          exact si_grid hk X hd h
        · cases ht
      · cases ht
    · obtain ⟨rfl, rfl⟩ := rg_some ht
      exact si_len X hd h
    · obtain ⟨rfl, rfl⟩ := rg_some ht
      exact si_ald (Or.inl ⟨rfl, rfl⟩) X hd h
    · obtain ⟨rfl, rfl⟩ := rg_some ht
      exact si_ald (Or.inr (Or.inl ⟨rfl, rfl⟩)) X hd h
    · obtain ⟨rfl, rfl⟩ := rg_some ht
      exact si_ald (Or.inr (Or.inr (Or.inl ⟨rfl, rfl⟩))) X hd h
    · obtain ⟨rfl, rfl⟩ := rg_some ht
      exact si_ald (Or.inr (Or.inr (Or.inr ⟨rfl, rfl⟩))) X hd h
    · obtain ⟨rfl, rfl⟩ := rg_some ht
      exact si_ast (Or.inl ⟨rfl, rfl⟩) X hd h
    · obtain ⟨rfl, rfl⟩ := rg_some ht
      exact si_ast (Or.inr (Or.inl ⟨rfl, rfl⟩)) X hd h
    · obtain ⟨rfl, rfl⟩ := rg_some ht
      exact si_ast (Or.inr (Or.inr (Or.inl ⟨rfl, rfl⟩))) X hd h
    · obtain ⟨rfl, rfl⟩ := rg_some ht
      exact si_ast (Or.inr (Or.inr (Or.inr ⟨rfl, rfl⟩))) X hd h
    · split at ht
      · obtain ⟨rfl, rfl⟩ := rg_some ht
        exact si_ret htt X hd h
      · split at ht
        · obtain ⟨rfl, rfl⟩ := rg_some ht
          exact si_ret htt X hd h
        · cases ht
    · split at ht
      · obtain ⟨rfl, rfl⟩ := rg_some ht
        exact si_ret htt X hd h
      · cases ht
    · split at ht
      · obtain ⟨rfl, rfl⟩ := rg_some ht
        exact si_ret htt X hd h
      · cases ht
    · split at ht
      · obtain ⟨rfl, rfl⟩ := rg_some ht
        exact si_ret htt X hd h
      · cases ht
    · obtain ⟨rfl, rfl⟩ := rg_some ht
      exact si_pop X hd h
    · obtain ⟨rfl, rfl⟩ := rg_some ht
      exact si_dup X hd h
    · obtain ⟨rfl, rfl⟩ := rg_some ht
      exact si_dup2 X hd h
    · cases ht
theorem sim_all (G : SG) (n : Nat) : SimP G n := by
  induction n with
  | zero => intro y pc ls st μ r h; cases h
  | succ n ih => exact sim_succ ih
