section ZS2
variable {p : Program} {l : Launch} {e : Env} {R : Room} {s : State} {m : MethodId} {args : Array Value} {below : List Frame} {meth : Method} {c : Code} {D : va_G} {Pl : List Nat} {ad : Nat → Nat} {cA : ClassId} {A : Nat → Prop} {mi : Nat} {cells slots : Nat} {Q : State → Prop}
set_option maxHeartbeats 4000000 in
theorem z_step {z y : zF} (C : zCx p s m args meth c D cA A mi) (hnd : zNd Pl) (hR : zRf (fun a => a ∈ Pl ∨ a = 100) z) (hz : zn mi z = some (.inl y)) (k : zGo p l e R s m args below meth c D Pl ad cA A mi cells slots Q y) : zGo p l e R s m args below meth c D Pl ad cA A mi cells slots Q z := by
  obtain ⟨pc, pl, st, h⟩ := z
  obtain ⟨ins, ha, hz⟩ := zn_op hz
  have hs := hR.2
  dsimp only at hz ha hs
  unfold zop at hz
  split at hz
  · exact z_aload_n C ha hz k
  · exact z_aload C ha hz k
  · exact z_iload_n C ha hz k
  · exact z_iload C ha hz k
  · exact z_lload_n C ha hz k
  · exact z_lload C ha hz k
  · exact z_istore_n C ha hz k
  · exact z_istore C ha hz k
  · exact z_astore_n C ha hz k
  · exact z_lstore_n C ha hz k
  · exact z_lstore C ha hz k
  · exact z_iinc C ha hz k
  · exact z_iconst C ha hz k
  · exact z_bipush C ha hz k
  · exact z_sipush C ha hz k
  · exact z_lconst C ha hz k
  · exact z_ldc C ha hz k
  · exact z_ldc_w C ha hz k
  · exact z_ldc2_w C ha hz k
  · exact z_dup C ha hz k
  · exact z_pop C ha hz k
  · exact z_dup2 C ha hz k
  · exact z_iadd C ha hz k
  · exact z_isub C ha hz k
  · exact z_imul C ha hz k
  · exact z_idiv C ha hz k
  · exact z_irem C ha hz k
  · exact z_ineg C ha hz k
  · exact z_ishl C ha hz k
  · exact z_ishr C ha hz k
  · exact z_iushr C ha hz k
  · exact z_iand C ha hz k
  · exact z_ior C ha hz k
  · exact z_ixor C ha hz k
  · exact z_i2l C ha hz k
  · exact z_ladd C ha hz k
  · exact z_lsub C ha hz k
  · exact z_lmul C ha hz k
  · exact z_ldiv C ha hz k
  · exact z_lrem C ha hz k
  · exact z_lcmp C ha hz k
  · exact z_icmp_eq C ha hz k
  · exact z_icmp_ne C ha hz k
  · exact z_icmp_lt C ha hz k
  · exact z_icmp_ge C ha hz k
  · exact z_icmp_gt C ha hz k
  · exact z_icmp_le C ha hz k
  · exact z_if_eq C ha hz k
  · exact z_if_ne C ha hz k
  · exact z_if_lt C ha hz k
  · exact z_if_ge C ha hz k
  · exact z_if_gt C ha hz k
  · exact z_if_le C ha hz k
  · exact z_goto C ha hz k
  · exact z_ifnull C ha hz k
  · exact z_ifnonnull C ha hz k
  · exact z_tableswitch C ha hz k
  · exact z_lookupswitch C ha hz k
  · exact z_getfield C hnd (zRfS_h hs) ha hz k
  · exact z_putfield C hnd (zRfS_h (zRfS_t hs)) ha hz k
  · exact z_arraylength C hnd (zRfS_h hs) ha hz k
  · exact z_iaload C hnd (zRfS_h (zRfS_t hs)) ha hz k
  · exact z_iastore C hnd (zRfS_h (zRfS_t (zRfS_t hs))) ha hz k
  · exact (zinv_ne1 hz).elim
  · exact (zins_ne1 hz).elim
  · unfold zrti at hz; split at hz <;> cases hz
  · split at hz <;> cases hz
  · split at hz <;> cases hz
  · cases hz
end ZS2
