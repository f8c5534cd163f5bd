/-! one step is sound; a whole run is sound; a method's contract out of a run -/
/-- how long an instruction is (0: it says so itself) -/
def q_ln (i : Instr) : Nat := match i with
  | .bipush _ | .ldc _ | .iload _ | .lload _ | .aload _ | .istore _ | .lstore _ | .astore _ | .newarray _ => 2
  | .sipush _ | .ldc_w _ | .ldc2_w _ | .iinc _ _ | .ifCond _ _ | .if_icmp _ _ | .ifnonnull _ | .goto _ | .getstatic _ | .getfield _ | .putfield _ | .invokevirtual _ | .invokespecial _ | .invokestatic _ | .new _ | .anewarray _ => 3
  | .tableswitch _ _ _ _ | .lookupswitch _ _ => 0
  | _ => 1
section QSTEP
variable {p : Program} {l : Launch} {e : Env} {R : Room} {s : State} {m : MethodId} {args : Array Value} {below : List Frame} {meth : Method} {c : Code} {Q : State → Prop} {g : q_G} {L n0 y : Nat} {S : Nat → Value}
theorem q_w_step {O : q_O} {d : Nat} {i : Instr} {cfg cfg' : q_C} (K : q_Cx p s m args meth c g L S n0 y) (hdg : ∃ n, decode (q_mc y) cfg.1 = .ok (i, n) ∧ (q_ln i = 0 ∨ q_ln i = n)) (HP : ∀ k e, q_pool (q_mo y) k = some e → q_ok (q_mo y) k e) (hO : q_Snd l O d) (hroom : d + 1 ≤ R.frames ∧ d * 64 + 64 ≤ R.locals) (hs : q_step O y i cfg = some (.inl cfg')) (hn0 : n0 ≤ cfg.2.2.2.1) (hcap : cfg'.2.2.2.1 - n0 ≤ R.cells ∧ q_us cfg'.2.2.2.1 - q_us n0 ≤ R.slots) (k : q_WA p l e R s m args below meth c Q g L S n0 cfg') : q_WA p l e R s m args below meth c Q g L S n0 cfg := by
  obtain ⟨n, hdg, hln⟩ := hdg
  have hx := K.1
  have hb := K.2.1
  have ho := K.2.2.2.2.2.2.2.1
  cases i with
  | aaload => cases hln.resolve_left (by decide); exact q_w_aald K hdg hs k
  | aastore => cases hln.resolve_left (by decide); exact q_w_aast K hdg hs k
  | aload j => cases hln.resolve_left (by intro q; cases q); exact q_w_lda hs (fun h1 h2 => lv_aload hx hb hdg h1 h2) k
  | aload_n j => cases hln.resolve_left (by intro q; cases q); exact q_w_lda hs (fun h1 h2 => lv_aload_n hx hb hdg rfl h1 h2) k
  | anewarray j => cases hln.resolve_left (by intro q; cases q); exact q_w_newr K hdg (HP j) hs hn0 hcap k
  | arraylength => cases hln.resolve_left (by decide); exact q_w_alen K hdg hs k
  | astore j => cases hln.resolve_left (by intro q; cases q); exact q_w_sta ho hs (fun h1 h2 => q_r_astore hx hb hdg h1 h2) k
  | astore_n j => cases hln.resolve_left (by intro q; cases q); exact q_w_sta ho hs (fun h1 h2 => q_r_astore_n hx hb hdg h1 h2) k
  | baload => cases hln.resolve_left (by decide); exact q_w_bald K hdg hs k
  | bastore => cases hln.resolve_left (by decide); exact q_w_bast K hdg hs k
  | bipush z => cases hln.resolve_left (by intro q; cases q); exact q_w_push hs (fun h2 => lv_bipush hx hb hdg rfl h2) k
  | dup => cases hln.resolve_left (by decide); exact q_w_dup hx hb hdg ho hs k
  | dup2 => cases hln.resolve_left (by decide); exact q_w_dup2 hx hb hdg ho hs k
  | getfield j => cases hln.resolve_left (by intro q; cases q); exact q_w_getf K hdg (HP j) hs k
  | getstatic j => cases hln.resolve_left (by intro q; cases q); exact q_w_gets K hdg (HP j) hs k
  | goto o => cases hln.resolve_left (by intro q; cases q); exact q_w_goto hx hb hdg hs k
  | i2b => cases hln.resolve_left (by decide); exact q_w_un hs (fun h2 => lv_i2b hx hb hdg rfl h2) k
  | i2c => cases hln.resolve_left (by decide); exact q_w_un hs (fun h2 => lv_i2c hx hb hdg rfl h2) k
  | i2l => cases hln.resolve_left (by decide); exact q_w_i2l hx hb hdg hs k
  | i2s => cases hln.resolve_left (by decide); exact q_w_un hs (fun h2 => lv_i2s hx hb hdg rfl h2) k
  | iadd => cases hln.resolve_left (by decide); exact q_w_bin hs (fun h2 => lv_iadd hx hb hdg h2) k
  | iaload => cases hln.resolve_left (by decide); exact q_w_iald K hdg hs k
  | iand => cases hln.resolve_left (by decide); exact q_w_bin hs (fun h2 => lv_iand hx hb hdg h2) k
  | iastore => cases hln.resolve_left (by decide); exact q_w_iast K hdg hs k
  | iconst z => cases hln.resolve_left (by intro q; cases q); exact q_w_push hs (fun h2 => lv_iconst hx hb hdg rfl h2) k
  | idiv => cases hln.resolve_left (by decide); exact q_w_div hs (fun h1 h2 => lv_idiv hx hb hdg h1 h2) k
  | if_icmp o j => cases hln.resolve_left (by intro q; cases q); exact q_w_icm hx hb hdg hs k
  | ifCond o j => cases hln.resolve_left (by intro q; cases q); exact q_w_ifc hx hb hdg hs k
  | ifnonnull j => cases hln.resolve_left (by intro q; cases q); exact q_w_ifnn hx hb hdg hs k
  | iinc j z => cases hln.resolve_left (by intro q; cases q); exact q_w_inc hx hb hdg ho hs k
  | iload j => cases hln.resolve_left (by intro q; cases q); exact q_w_ldi hs (fun h1 h2 => lv_iload hx hb hdg h1 h2) k
  | iload_n j => cases hln.resolve_left (by intro q; cases q); exact q_w_ldi hs (fun h1 h2 => lv_iload_n hx hb hdg rfl h1 h2) k
  | imul => cases hln.resolve_left (by decide); exact q_w_bin hs (fun h2 => lv_imul hx hb hdg h2) k
  | ineg => cases hln.resolve_left (by decide); exact q_w_un hs (fun h2 => lv_ineg hx hb hdg h2) k
  | invokespecial j => cases hln.resolve_left (by intro q; cases q); exact q_w_inp K hdg (HP j) hO hroom hs hn0 hcap k
  | invokestatic j => cases hln.resolve_left (by intro q; cases q); exact q_w_ins K hdg (HP j) hO hroom hs hn0 hcap k
  | invokevirtual j => cases hln.resolve_left (by intro q; cases q); exact q_w_inv K hdg (HP j) hO hroom hs hn0 hcap k
  | ior => cases hln.resolve_left (by decide); exact q_w_bin hs (fun h2 => lv_ior hx hb hdg h2) k
  | irem => cases hln.resolve_left (by decide); exact q_w_div hs (fun h1 h2 => lv_irem hx hb hdg h1 h2) k
  | ireturn => 
    exfalso
    simp only [q_step, q_iret] at hs
    split at hs
    · split at hs <;> cases hs
    · cases hs
  | ishl => cases hln.resolve_left (by decide); exact q_w_bin hs (fun h2 => lv_ishl hx hb hdg h2) k
  | ishr => cases hln.resolve_left (by decide); exact q_w_bin hs (fun h2 => lv_ishr hx hb hdg h2) k
  | istore j => cases hln.resolve_left (by intro q; cases q); exact q_w_sti ho hs (fun h1 h2 => q_r_istore hx hb hdg h1 h2) k
  | istore_n j => cases hln.resolve_left (by intro q; cases q); exact q_w_sti ho hs (fun h1 h2 => q_r_istore_n hx hb hdg h1 h2) k
  | isub => cases hln.resolve_left (by decide); exact q_w_bin hs (fun h2 => lv_isub hx hb hdg h2) k
  | iushr => cases hln.resolve_left (by decide); exact q_w_bin hs (fun h2 => lv_iushr hx hb hdg rfl h2) k
  | ixor => cases hln.resolve_left (by decide); exact q_w_bin hs (fun h2 => lv_ixor hx hb hdg h2) k
  | l2i => cases hln.resolve_left (by decide); exact q_w_l2i hx hb hdg hs k
  | laload => cases hln.resolve_left (by decide); exact q_w_lald K hdg hs k
  | land => cases hln.resolve_left (by decide); exact q_w_binl hs (fun h2 => lv_land hx hb hdg h2) k
  | lastore => cases hln.resolve_left (by decide); exact q_w_last K hdg hs k
  | lcmp => cases hln.resolve_left (by decide); exact q_w_lcmp hx hb hdg hs k
  | lconst z => cases hln.resolve_left (by intro q; cases q); exact q_w_push hs (fun h2 => lv_lconst hx hb hdg rfl h2) k
  | ldc j => cases hln.resolve_left (by intro q; cases q); exact q_w_ldc K hdg (HP j) hs k
  | ldc_w j => cases hln.resolve_left (by intro q; cases q); exact q_w_ldcw K hdg (HP j) hs k
  | ldc2_w j => cases hln.resolve_left (by intro q; cases q); exact q_w_ldc2 K hdg (HP j) hs k
  | lload j => cases hln.resolve_left (by intro q; cases q); exact q_w_ldl hs (fun h1 h2 => lv_lload hx hb hdg h1 h2) k
  | lload_n j => cases hln.resolve_left (by intro q; cases q); exact q_w_ldl hs (fun h1 h2 => lv_lload_n hx hb hdg rfl h1 h2) k
  | lookupswitch dd ps => exact q_w_lsw hx hb hdg hs k
  | lor => cases hln.resolve_left (by decide); exact q_w_binl hs (fun h2 => lv_lor hx hb hdg h2) k
  | lreturn =>
    exfalso
    simp only [q_step, q_lret] at hs
    split at hs <;> cases hs
  | lshl => cases hln.resolve_left (by decide); exact q_w_lshl hx hb hdg hs k
  | lstore j => cases hln.resolve_left (by intro q; cases q); exact q_w_stl ho hs (fun h1 h2 => q_r_lstore hx hb hdg h1 h2) k
  | lstore_n j => cases hln.resolve_left (by intro q; cases q); exact q_w_stl ho hs (fun h1 h2 => q_r_lstore_n hx hb hdg h1 h2) k
  | newarray t => cases hln.resolve_left (by intro q; cases q); exact q_w_newa K hdg hs hn0 hcap k
  | new j => cases hln.resolve_left (by intro q; cases q); exact q_w_new K hdg (HP j) hs hn0 hcap k
  | pop => cases hln.resolve_left (by decide); exact q_w_pop hx hb hdg ho hs k
  | putfield j => cases hln.resolve_left (by intro q; cases q); exact q_w_putf K hdg (HP j) hs k
  | return_ =>
    exfalso
    simp only [q_step, q_vret] at hs
    split at hs <;> cases hs
  | sipush z => cases hln.resolve_left (by intro q; cases q); exact q_w_push hs (fun h2 => lv_sipush hx hb hdg rfl h2) k
  | tableswitch dd lo hi os => exact q_w_tsw hx hb hdg hs k
  | _ => cases hs
end QSTEP
