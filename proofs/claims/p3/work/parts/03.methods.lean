abbrev pI (i : Instr) : Decoder Instr := Pure.pure i
theorem bind_rn {α β : Type} {r : Decoder α} {f : α → Decoder β} {c : ByteArray} {p q : Nat} {v : α} (h : r c p = .ok (v, q)) : (r >>= f) c p = f v c q := by
  show (r c p >>= fun s => f s.1 c s.2) = _
  rw [h]
  rfl
theorem drop_cons {l t : List UInt8} {p : Nat} {x : UInt8} (h : l.drop p = x :: t) : ∃ hp : p < l.length, l[p] = x ∧ l.drop (p + 1) = t := by
  have hp : p < l.length := by
    cases Nat.lt_or_ge p l.length with
    | inl q => exact q
    | inr q => rw [List.drop_eq_nil_of_le q] at h; cases h
  rw [List.drop_eq_getElem_cons hp] at h
  injection h with h1 h2
  exact ⟨hp, h1, h2⟩
theorem u1_rn {c : ByteArray} {p : Nat} {x : UInt8} {t : List UInt8} (h : c.data.toList.drop p = x :: t) : (Reader.u1 : Decoder Nat) c p = .ok (x.toNat, p + 1) := by
  obtain ⟨hp, h1, -⟩ := drop_cons h
  have hs : p < c.size := hp
  have e : c[p] = x := h1
  show (if h : p < c.size then (do set (p + 1); Pure.pure c[p].toNat : Decoder Nat) else throw (HasTruncated.truncated p)) c p = _
  rw [dif_pos hs, e]
  rfl
def pfx : List Nat → List UInt8 → Bool
  | [], _ => true
  | n :: r, b :: s => bif Nat.beq n b.toNat then pfx r s else false
  | _ :: _, [] => false
theorem pfx_cons {n : Nat} {r : List Nat} {L : List UInt8} (h : pfx (n :: r) L = true) : ∃ x t, L = x :: t ∧ x.toNat = n ∧ pfx r t = true := by
  cases L with
  | nil => cases h
  | cons x t =>
    unfold pfx at h
    cases h1 : Nat.beq n x.toNat with
    | false => rw [h1] at h; cases h
    | true => rw [h1] at h; exact ⟨x, t, rfl, (Nat.eq_of_beq_eq_true h1).symm, h⟩
theorem u1_pf {c : ByteArray} {p n : Nat} {r : List Nat} (h : pfx (n :: r) (c.data.toList.drop p) = true) : (Reader.u1 : Decoder Nat) c p = .ok (n, p + 1) ∧ pfx r (c.data.toList.drop (p + 1)) = true := by
  obtain ⟨x, t, h1, h2, h3⟩ := pfx_cons h
  refine ⟨by rw [u1_rn h1, h2], ?_⟩
  obtain ⟨-, -, h4⟩ := drop_cons h1
  rw [h4]
  exact h3
theorem u2_pf {c : ByteArray} {p a b : Nat} {r : List Nat} (h : pfx (a :: b :: r) (c.data.toList.drop p) = true) : (Reader.u2 : Decoder Nat) c p = .ok (a * 256 + b, p + 2) := by
  obtain ⟨h1, h2⟩ := u1_pf h
  obtain ⟨h3, -⟩ := u1_pf h2
  unfold Reader.u2
  rw [bind_rn h1, bind_rn h3]
  rfl
theorem map_rn {α β : Type} {r : Decoder α} {g : α → β} {c : ByteArray} {p q : Nat} {v : α} (h : r c p = .ok (v, q)) : (g <$> r) c p = .ok (g v, q) := by
  show ((fun (s : α × Nat) => (g s.1, s.2)) <$> r c p) = _
  rw [h]
  rfl
theorem s1_pf {c : ByteArray} {p a : Nat} {r : List Nat} (h : pfx (a :: r) (c.data.toList.drop p) = true) : (Reader.s1 : Decoder Int) c p = .ok (Reader.signed 8 a, p + 1) := map_rn (u1_pf h).1
theorem s2_pf {c : ByteArray} {p a b : Nat} {r : List Nat} (h : pfx (a :: b :: r) (c.data.toList.drop p) = true) : (Reader.s2 : Decoder Int) c p = .ok (Reader.signed 16 (a * 256 + b), p + 2) := map_rn (u2_pf h)
theorem dec_rn {c : ByteArray} {pc n : Nat} {i : Instr} (h : (Decoder.instr pc) c pc = .ok (i, pc + n)) : decode c pc = .ok (i, n) := by
  show (((Decoder.instr pc) c pc) >>= fun (s : Instr × Nat) => (.ok (s.1, s.2 - pc) : Except DecodeError (Instr × Nat))) = _
  rw [h]
  show (Except.ok (i, pc + n - pc) : Except DecodeError (Instr × Nat)) = _
  rw [Nat.add_sub_cancel_left]
def by1 (v : Int) : Nat := (v % 256).toNat
def hi2 (v : Int) : Nat := (v % 65536).toNat / 256
def lo2 (v : Int) : Nat := (v % 65536).toNat % 256
def in1 (v : Int) : Bool := decide (-128 ≤ v) && decide (v ≤ 127)
def in2 (v : Int) : Bool := decide (-32768 ≤ v) && decide (v ≤ 32767)
theorem sg1 {v : Int} (h : in1 v = true) : Reader.signed 8 (by1 v) = v := by
  unfold in1 at h
  rw [Bool.and_eq_true, decide_eq_true_eq, decide_eq_true_eq] at h
  unfold Reader.signed by1
  split <;> omega
theorem sg2 {v : Int} (h : in2 v = true) : Reader.signed 16 (hi2 v * 256 + lo2 v) = v := by
  unfold in2 at h
  rw [Bool.and_eq_true, decide_eq_true_eq, decide_eq_true_eq] at h
  unfold Reader.signed hi2 lo2
  split <;> omega
def cN (c : Jvm.ClassFile.Cond) : Nat := match c with
  | .eq => 0
  | .ne => 1
  | .lt => 2
  | .ge => 3
  | .gt => 4
  | .le => 5
def tyN (c : Jvm.ClassFile.ArrayType) : Nat := match c with
  | .boolean => 4
  | .char => 5
  | .float => 6
  | .double => 7
  | .byte => 8
  | .short => 9
  | .int => 10
  | .long => 11
/-- an instruction's bytes; of a switch none -/
def asmI (i : Instr) : List Nat := match i with
  | .aconst_null => [1]
  | .iaload => [46]
  | .laload => [47]
  | .aaload => [50]
  | .baload => [51]
  | .caload => [52]
  | .iastore => [79]
  | .lastore => [80]
  | .aastore => [83]
  | .bastore => [84]
  | .castore => [85]
  | .pop => [87]
  | .pop2 => [88]
  | .dup => [89]
  | .dup_x1 => [90]
  | .dup_x2 => [91]
  | .dup2 => [92]
  | .iadd => [96]
  | .ladd => [97]
  | .isub => [100]
  | .lsub => [101]
  | .imul => [104]
  | .lmul => [105]
  | .idiv => [108]
  | .ldiv => [109]
  | .irem => [112]
  | .lrem => [113]
  | .ineg => [116]
  | .lneg => [117]
  | .ishl => [120]
  | .lshl => [121]
  | .ishr => [122]
  | .lshr => [123]
  | .iushr => [124]
  | .lushr => [125]
  | .iand => [126]
  | .land => [127]
  | .ior => [128]
  | .lor => [129]
  | .ixor => [130]
  | .lxor => [131]
  | .i2l => [133]
  | .l2i => [136]
  | .i2b => [145]
  | .i2c => [146]
  | .i2s => [147]
  | .lcmp => [148]
  | .ireturn => [172]
  | .lreturn => [173]
  | .areturn => [176]
  | .return_ => [177]
  | .arraylength => [190]
  | .iload_n n => [Nat.add 26 n.val]
  | .lload_n n => [Nat.add 30 n.val]
  | .aload_n n => [Nat.add 42 n.val]
  | .istore_n n => [Nat.add 59 n.val]
  | .lstore_n n => [Nat.add 63 n.val]
  | .astore_n n => [Nat.add 75 n.val]
  | .ldc n => [18, n]
  | .iload n => [21, n]
  | .lload n => [22, n]
  | .aload n => [25, n]
  | .istore n => [54, n]
  | .lstore n => [55, n]
  | .astore n => [58, n]
  | .ldc_w n => [19, n / 256, n % 256]
  | .ldc2_w n => [20, n / 256, n % 256]
  | .getfield n => [180, n / 256, n % 256]
  | .putfield n => [181, n / 256, n % 256]
  | .invokevirtual n => [182, n / 256, n % 256]
  | .invokespecial n => [183, n / 256, n % 256]
  | .invokestatic n => [184, n / 256, n % 256]
  | .new n => [187, n / 256, n % 256]
  | .anewarray n => [189, n / 256, n % 256]
  | .sipush v => bif in2 v then [17, hi2 v, lo2 v] else []
  | .goto v => bif in2 v then [167, hi2 v, lo2 v] else []
  | .ifnull v => bif in2 v then [198, hi2 v, lo2 v] else []
  | .ifnonnull v => bif in2 v then [199, hi2 v, lo2 v] else []
  | .bipush v => bif in1 v then [16, by1 v] else []
  | .iconst v => bif decide (-1 ≤ v) && decide (v ≤ 5) then [(v + 3).toNat] else []
  | .lconst n => [Nat.add 9 n.val]
  | .iinc n v => bif in1 v then [132, n, by1 v] else []
  | .ifCond c v => bif in2 v then [Nat.add 153 (cN c), hi2 v, lo2 v] else []
  | .if_icmp c v => bif in2 v then [Nat.add 159 (cN c), hi2 v, lo2 v] else []
  | .newarray y => [188, tyN y]
  | _ => []
set_option maxHeartbeats 4000000 in
theorem instr_f (pc : Nat) : ∃ f : Nat → Decoder Instr, Decoder.instr pc = (Reader.u1 >>= f) ∧ f 1 = pI .aconst_null ∧ f 2 = pI (.iconst (-1)) ∧ f 3 = pI (.iconst (0)) ∧ f 4 = pI (.iconst (1)) ∧ f 5 = pI (.iconst (2)) ∧ f 6 = pI (.iconst (3)) ∧ f 7 = pI (.iconst (4)) ∧ f 8 = pI (.iconst (5)) ∧ f 9 = pI (.lconst 0) ∧ f 10 = pI (.lconst 1) ∧ f 16 = (Reader.s1 >>= fun a => pI (.bipush a)) ∧ f 17 = (Reader.s2 >>= fun a => pI (.sipush a)) ∧ f 18 = (Reader.u1 >>= fun a => pI (.ldc a)) ∧ f 19 = (Reader.u2 >>= fun a => pI (.ldc_w a)) ∧ f 20 = (Reader.u2 >>= fun a => pI (.ldc2_w a)) ∧ f 21 = (Reader.u1 >>= fun a => pI (.iload a)) ∧ f 22 = (Reader.u1 >>= fun a => pI (.lload a)) ∧ f 25 = (Reader.u1 >>= fun a => pI (.aload a)) ∧ f 26 = pI (.iload_n 0) ∧ f 27 = pI (.iload_n 1) ∧ f 28 = pI (.iload_n 2) ∧ f 29 = pI (.iload_n 3) ∧ f 30 = pI (.lload_n 0) ∧ f 31 = pI (.lload_n 1) ∧ f 32 = pI (.lload_n 2) ∧ f 33 = pI (.lload_n 3) ∧ f 42 = pI (.aload_n 0) ∧ f 43 = pI (.aload_n 1) ∧ f 44 = pI (.aload_n 2) ∧ f 45 = pI (.aload_n 3) ∧ f 46 = pI .iaload ∧ f 47 = pI .laload ∧ f 50 = pI .aaload ∧ f 51 = pI .baload ∧ f 52 = pI .caload ∧ f 54 = (Reader.u1 >>= fun a => pI (.istore a)) ∧ f 55 = (Reader.u1 >>= fun a => pI (.lstore a)) ∧ f 58 = (Reader.u1 >>= fun a => pI (.astore a)) ∧ f 59 = pI (.istore_n 0) ∧ f 60 = pI (.istore_n 1) ∧ f 61 = pI (.istore_n 2) ∧ f 62 = pI (.istore_n 3) ∧ f 63 = pI (.lstore_n 0) ∧ f 64 = pI (.lstore_n 1) ∧ f 65 = pI (.lstore_n 2) ∧ f 66 = pI (.lstore_n 3) ∧ f 75 = pI (.astore_n 0) ∧ f 76 = pI (.astore_n 1) ∧ f 77 = pI (.astore_n 2) ∧ f 78 = pI (.astore_n 3) ∧ f 79 = pI .iastore ∧ f 80 = pI .lastore ∧ f 83 = pI .aastore ∧ f 84 = pI .bastore ∧ f 85 = pI .castore ∧ f 87 = pI .pop ∧ f 88 = pI .pop2 ∧ f 89 = pI .dup ∧ f 90 = pI .dup_x1 ∧ f 91 = pI .dup_x2 ∧ f 92 = pI .dup2 ∧ f 96 = pI .iadd ∧ f 97 = pI .ladd ∧ f 100 = pI .isub ∧ f 101 = pI .lsub ∧ f 104 = pI .imul ∧ f 105 = pI .lmul ∧ f 108 = pI .idiv ∧ f 109 = pI .ldiv ∧ f 112 = pI .irem ∧ f 113 = pI .lrem ∧ f 116 = pI .ineg ∧ f 117 = pI .lneg ∧ f 120 = pI .ishl ∧ f 121 = pI .lshl ∧ f 122 = pI .ishr ∧ f 123 = pI .lshr ∧ f 124 = pI .iushr ∧ f 125 = pI .lushr ∧ f 126 = pI .iand ∧ f 127 = pI .land ∧ f 128 = pI .ior ∧ f 129 = pI .lor ∧ f 130 = pI .ixor ∧ f 131 = pI .lxor ∧ f 132 = (Reader.u1 >>= fun a => Reader.s1 >>= fun b => pI (.iinc a b)) ∧ f 133 = pI .i2l ∧ f 136 = pI .l2i ∧ f 145 = pI .i2b ∧ f 146 = pI .i2c ∧ f 147 = pI .i2s ∧ f 148 = pI .lcmp ∧ f 153 = (Reader.s2 >>= fun a => pI (.ifCond .eq a)) ∧ f 154 = (Reader.s2 >>= fun a => pI (.ifCond .ne a)) ∧ f 155 = (Reader.s2 >>= fun a => pI (.ifCond .lt a)) ∧ f 156 = (Reader.s2 >>= fun a => pI (.ifCond .ge a)) ∧ f 157 = (Reader.s2 >>= fun a => pI (.ifCond .gt a)) ∧ f 158 = (Reader.s2 >>= fun a => pI (.ifCond .le a)) ∧ f 159 = (Reader.s2 >>= fun a => pI (.if_icmp .eq a)) ∧ f 160 = (Reader.s2 >>= fun a => pI (.if_icmp .ne a)) ∧ f 161 = (Reader.s2 >>= fun a => pI (.if_icmp .lt a)) ∧ f 162 = (Reader.s2 >>= fun a => pI (.if_icmp .ge a)) ∧ f 163 = (Reader.s2 >>= fun a => pI (.if_icmp .gt a)) ∧ f 164 = (Reader.s2 >>= fun a => pI (.if_icmp .le a)) ∧ f 167 = (Reader.s2 >>= fun a => pI (.goto a)) ∧ f 172 = pI .ireturn ∧ f 173 = pI .lreturn ∧ f 176 = pI .areturn ∧ f 177 = pI .return_ ∧ f 180 = (Reader.u2 >>= fun a => pI (.getfield a)) ∧ f 181 = (Reader.u2 >>= fun a => pI (.putfield a)) ∧ f 182 = (Reader.u2 >>= fun a => pI (.invokevirtual a)) ∧ f 183 = (Reader.u2 >>= fun a => pI (.invokespecial a)) ∧ f 184 = (Reader.u2 >>= fun a => pI (.invokestatic a)) ∧ f 187 = (Reader.u2 >>= fun a => pI (.new a)) ∧ f 188 = Decoder.newarray pc ∧ f 189 = (Reader.u2 >>= fun a => pI (.anewarray a)) ∧ f 190 = pI .arraylength ∧ f 198 = (Reader.s2 >>= fun a => pI (.ifnull a)) ∧ f 199 = (Reader.s2 >>= fun a => pI (.ifnonnull a)) := ⟨_, rfl, rfl, rfl, rfl, rfl, rfl, rfl, rfl, rfl, rfl, rfl, rfl, rfl, rfl, rfl, rfl, rfl, rfl, rfl, rfl, rfl, rfl, rfl, rfl, rfl, rfl, rfl, rfl, rfl, rfl, rfl, rfl, rfl, rfl, rfl, rfl, rfl, rfl, rfl, rfl, rfl, rfl, rfl, rfl, rfl, rfl, rfl, rfl, rfl, rfl, rfl, rfl, rfl, rfl, rfl, rfl, rfl, rfl, rfl, rfl, rfl, rfl, rfl, rfl, rfl, rfl, rfl, rfl, rfl, rfl, rfl, rfl, rfl, rfl, rfl, rfl, rfl, rfl, rfl, rfl, rfl, rfl, rfl, rfl, rfl, rfl, rfl, rfl, rfl, rfl, rfl, rfl, rfl, rfl, rfl, rfl, rfl, rfl, rfl, rfl, rfl, rfl, rfl, rfl, rfl, rfl, rfl, rfl, rfl, rfl, rfl, rfl, rfl, rfl, rfl, rfl, rfl, rfl, rfl, rfl, rfl⟩
theorem na_f (pc : Nat) : ∃ f : Nat → Decoder Instr, Decoder.newarray pc = (Reader.u1 >>= f) ∧ f 4 = pI (.newarray .boolean) ∧ f 5 = pI (.newarray .char) ∧ f 6 = pI (.newarray .float) ∧ f 7 = pI (.newarray .double) ∧ f 8 = pI (.newarray .byte) ∧ f 9 = pI (.newarray .short) ∧ f 10 = pI (.newarray .int) ∧ f 11 = pI (.newarray .long) := ⟨_, rfl, rfl, rfl, rfl, rfl, rfl, rfl, rfl, rfl⟩
set_option maxHeartbeats 4000000 in
theorem asmB_ok {c : ByteArray} {pc : Nat} {i : Instr} (hne : asmI i ≠ []) (h : pfx (asmI i) (c.data.toList.drop pc) = true) : decode c pc = .ok (i, (asmI i).length) := by
  obtain ⟨f, hf, f1, f2, f3, f4, f5, f6, f7, f8, f9, f10, f16, f17, f18, f19, f20, f21, f22, f25, f26, f27, f28, f29, f30, f31, f32, f33, f42, f43, f44, f45, f46, f47, f50, f51, f52, f54, f55, f58, f59, f60, f61, f62, f63, f64, f65, f66, f75, f76, f77, f78, f79, f80, f83, f84, f85, f87, f88, f89, f90, f91, f92, f96, f97, f100, f101, f104, f105, f108, f109, f112, f113, f116, f117, f120, f121, f122, f123, f124, f125, f126, f127, f128, f129, f130, f131, f132, f133, f136, f145, f146, f147, f148, f153, f154, f155, f156, f157, f158, f159, f160, f161, f162, f163, f164, f167, f172, f173, f176, f177, f180, f181, f182, f183, f184, f187, f188, f189, f190, f198, f199⟩ := instr_f pc
  have go0 : ∀ {op : Nat} {i : Instr}, f op = pI i → pfx [op] (c.data.toList.drop pc) = true → decode c pc = .ok (i, 1) := fun e hp => dec_rn (by rw [hf, bind_rn (u1_pf hp).1, e]; rfl)
  have gou1 : ∀ {op a : Nat} {C : Nat → Instr}, f op = (Reader.u1 >>= fun a => pI (C a)) → pfx [op, a] (c.data.toList.drop pc) = true → decode c pc = .ok (C a, 2) := fun e hp => dec_rn (by rw [hf, bind_rn (u1_pf hp).1, e, bind_rn (u1_pf (u1_pf hp).2).1]; rfl)
  have gou2 : ∀ {op a : Nat} {C : Nat → Instr}, f op = (Reader.u2 >>= fun a => pI (C a)) → pfx [op, a / 256, a % 256] (c.data.toList.drop pc) = true → decode c pc = .ok (C a, 3) := fun {op a C} e hp => dec_rn (by rw [hf, bind_rn (u1_pf hp).1, e, bind_rn (u2_pf (u1_pf hp).2), show a / 256 * 256 + a % 256 = a by omega]; rfl)
  have gos2 : ∀ {op : Nat} {v : Int} {C : Int → Instr}, f op = (Reader.s2 >>= fun a => pI (C a)) → in2 v = true → pfx [op, hi2 v, lo2 v] (c.data.toList.drop pc) = true → decode c pc = .ok (C v, 3) := fun e hv hp => dec_rn (by rw [hf, bind_rn (u1_pf hp).1, e, bind_rn (s2_pf (u1_pf hp).2), sg2 hv]; rfl)
  cases i
  case aconst_null => exact go0 f1 h
  case iaload => exact go0 f46 h
  case laload => exact go0 f47 h
  case aaload => exact go0 f50 h
  case baload => exact go0 f51 h
  case caload => exact go0 f52 h
  case iastore => exact go0 f79 h
  case lastore => exact go0 f80 h
  case aastore => exact go0 f83 h
  case bastore => exact go0 f84 h
  case castore => exact go0 f85 h
  case pop => exact go0 f87 h
  case pop2 => exact go0 f88 h
  case dup => exact go0 f89 h
  case dup_x1 => exact go0 f90 h
  case dup_x2 => exact go0 f91 h
  case dup2 => exact go0 f92 h
  case iadd => exact go0 f96 h
  case ladd => exact go0 f97 h
  case isub => exact go0 f100 h
  case lsub => exact go0 f101 h
  case imul => exact go0 f104 h
  case lmul => exact go0 f105 h
  case idiv => exact go0 f108 h
  case ldiv => exact go0 f109 h
  case irem => exact go0 f112 h
  case lrem => exact go0 f113 h
  case ineg => exact go0 f116 h
  case lneg => exact go0 f117 h
  case ishl => exact go0 f120 h
  case lshl => exact go0 f121 h
  case ishr => exact go0 f122 h
  case lshr => exact go0 f123 h
  case iushr => exact go0 f124 h
  case lushr => exact go0 f125 h
  case iand => exact go0 f126 h
  case land => exact go0 f127 h
  case ior => exact go0 f128 h
  case lor => exact go0 f129 h
  case ixor => exact go0 f130 h
  case lxor => exact go0 f131 h
  case i2l => exact go0 f133 h
  case l2i => exact go0 f136 h
  case i2b => exact go0 f145 h
  case i2c => exact go0 f146 h
  case i2s => exact go0 f147 h
  case lcmp => exact go0 f148 h
  case ireturn => exact go0 f172 h
  case lreturn => exact go0 f173 h
  case areturn => exact go0 f176 h
  case return_ => exact go0 f177 h
  case arraylength => exact go0 f190 h
  case iload_n n => exact match n, h with
    | ⟨0, _⟩, h => go0 f26 h
    | ⟨1, _⟩, h => go0 f27 h
    | ⟨2, _⟩, h => go0 f28 h
    | ⟨3, _⟩, h => go0 f29 h
  case lload_n n => exact match n, h with
    | ⟨0, _⟩, h => go0 f30 h
    | ⟨1, _⟩, h => go0 f31 h
    | ⟨2, _⟩, h => go0 f32 h
    | ⟨3, _⟩, h => go0 f33 h
  case aload_n n => exact match n, h with
    | ⟨0, _⟩, h => go0 f42 h
    | ⟨1, _⟩, h => go0 f43 h
    | ⟨2, _⟩, h => go0 f44 h
    | ⟨3, _⟩, h => go0 f45 h
  case istore_n n => exact match n, h with
    | ⟨0, _⟩, h => go0 f59 h
    | ⟨1, _⟩, h => go0 f60 h
    | ⟨2, _⟩, h => go0 f61 h
    | ⟨3, _⟩, h => go0 f62 h
  case lstore_n n => exact match n, h with
    | ⟨0, _⟩, h => go0 f63 h
    | ⟨1, _⟩, h => go0 f64 h
    | ⟨2, _⟩, h => go0 f65 h
    | ⟨3, _⟩, h => go0 f66 h
  case astore_n n => exact match n, h with
    | ⟨0, _⟩, h => go0 f75 h
    | ⟨1, _⟩, h => go0 f76 h
    | ⟨2, _⟩, h => go0 f77 h
    | ⟨3, _⟩, h => go0 f78 h
  case ldc n => exact gou1 f18 h
  case iload n => exact gou1 f21 h
  case lload n => exact gou1 f22 h
  case aload n => exact gou1 f25 h
  case istore n => exact gou1 f54 h
  case lstore n => exact gou1 f55 h
  case astore n => exact gou1 f58 h
  case ldc_w n => exact gou2 f19 h
  case ldc2_w n => exact gou2 f20 h
  case getfield n => exact gou2 f180 h
  case putfield n => exact gou2 f181 h
  case invokevirtual n => exact gou2 f182 h
  case invokespecial n => exact gou2 f183 h
  case invokestatic n => exact gou2 f184 h
  case new n => exact gou2 f187 h
  case anewarray n => exact gou2 f189 h
  case sipush v =>
    cases hv : in2 v with
    | false => exact absurd (show asmI (.sipush v) = [] by simp only [asmI, hv, cond_false]) hne
    | true =>
      have e : asmI (.sipush v) = [17, hi2 v, lo2 v] := by simp only [asmI, hv, cond_true]
      rw [e] at h ⊢
      exact gos2 f17 hv h
  case goto v =>
    cases hv : in2 v with
    | false => exact absurd (show asmI (.goto v) = [] by simp only [asmI, hv, cond_false]) hne
    | true =>
      have e : asmI (.goto v) = [167, hi2 v, lo2 v] := by simp only [asmI, hv, cond_true]
      rw [e] at h ⊢
      exact gos2 f167 hv h
  case ifnull v =>
    cases hv : in2 v with
    | false => exact absurd (show asmI (.ifnull v) = [] by simp only [asmI, hv, cond_false]) hne
    | true =>
      have e : asmI (.ifnull v) = [198, hi2 v, lo2 v] := by simp only [asmI, hv, cond_true]
      rw [e] at h ⊢
      exact gos2 f198 hv h
  case ifnonnull v =>
    cases hv : in2 v with
    | false => exact absurd (show asmI (.ifnonnull v) = [] by simp only [asmI, hv, cond_false]) hne
    | true =>
      have e : asmI (.ifnonnull v) = [199, hi2 v, lo2 v] := by simp only [asmI, hv, cond_true]
      rw [e] at h ⊢
      exact gos2 f199 hv h
  case ifCond cc v =>
    cases hv : in2 v with
    | false => exact absurd (show asmI (.ifCond cc v) = [] by simp only [asmI, hv, cond_false]) hne
    | true =>
      have e : asmI (.ifCond cc v) = [Nat.add 153 (cN cc), hi2 v, lo2 v] := by simp only [asmI, hv, cond_true]
      rw [e] at h ⊢
      exact match cc, h with
        | .eq, h => gos2 f153 hv h
        | .ne, h => gos2 f154 hv h
        | .lt, h => gos2 f155 hv h
        | .ge, h => gos2 f156 hv h
        | .gt, h => gos2 f157 hv h
        | .le, h => gos2 f158 hv h
  case if_icmp cc v =>
    cases hv : in2 v with
    | false => exact absurd (show asmI (.if_icmp cc v) = [] by simp only [asmI, hv, cond_false]) hne
    | true =>
      have e : asmI (.if_icmp cc v) = [Nat.add 159 (cN cc), hi2 v, lo2 v] := by simp only [asmI, hv, cond_true]
      rw [e] at h ⊢
      exact match cc, h with
        | .eq, h => gos2 f159 hv h
        | .ne, h => gos2 f160 hv h
        | .lt, h => gos2 f161 hv h
        | .ge, h => gos2 f162 hv h
        | .gt, h => gos2 f163 hv h
        | .le, h => gos2 f164 hv h
  case bipush v =>
    cases hv : in1 v with
    | false => exact absurd (show asmI (.bipush v) = [] by simp only [asmI, hv, cond_false]) hne
    | true =>
      have e : asmI (.bipush v) = [16, by1 v] := by simp only [asmI, hv, cond_true]
      rw [e] at h ⊢
      exact dec_rn (by rw [hf, bind_rn (u1_pf h).1, f16, bind_rn (s1_pf (u1_pf h).2), sg1 hv]; rfl)
  case iinc n v =>
    cases hv : in1 v with
    | false => exact absurd (show asmI (.iinc n v) = [] by simp only [asmI, hv, cond_false]) hne
    | true =>
      have e : asmI (.iinc n v) = [132, n, by1 v] := by simp only [asmI, hv, cond_true]
      rw [e] at h ⊢
      exact dec_rn (by rw [hf, bind_rn (u1_pf h).1, f132, bind_rn (u1_pf (u1_pf h).2).1, bind_rn (s1_pf (u1_pf (u1_pf h).2).2), sg1 hv]; rfl)
  case iconst v =>
    cases hv : (decide (-1 ≤ v) && decide (v ≤ 5)) with
    | false => exact absurd (show asmI (.iconst v) = [] by simp only [asmI, hv, cond_false]) hne
    | true =>
      have e : asmI (.iconst v) = [(v + 3).toNat] := by simp only [asmI, hv, cond_true]
      rw [e] at h ⊢
      rw [Bool.and_eq_true, decide_eq_true_eq, decide_eq_true_eq] at hv
      rcases (show v = -1 ∨ v = 0 ∨ v = 1 ∨ v = 2 ∨ v = 3 ∨ v = 4 ∨ v = 5 by omega) with rfl | rfl | rfl | rfl | rfl | rfl | rfl
      · exact go0 f2 h
      · exact go0 f3 h
      · exact go0 f4 h
      · exact go0 f5 h
      · exact go0 f6 h
      · exact go0 f7 h
      · exact go0 f8 h
  case lconst n => exact match n, h with
    | ⟨0, _⟩, h => go0 f9 h
    | ⟨1, _⟩, h => go0 f10 h
  case newarray y =>
    obtain ⟨g, hg, g4, g5, g6, g7, g8, g9, g10, g11⟩ := na_f pc
    have gon : ∀ {op : Nat} {i : Instr}, g op = pI i → pfx [188, op] (c.data.toList.drop pc) = true → decode c pc = .ok (i, 2) := fun e hp => dec_rn (by rw [hf, bind_rn (u1_pf hp).1, f188, hg, bind_rn (u1_pf (u1_pf hp).2).1, e]; rfl)
    exact match y, h with
      | .boolean, h => gon g4 h
      | .char, h => gon g5 h
      | .float, h => gon g6 h
      | .double, h => gon g7 h
      | .byte, h => gon g8 h
      | .short, h => gon g9 h
      | .int, h => gon g10 h
      | .long, h => gon g11 h
  all_goals exact absurd rfl hne
/-- a row at place p, by its bytes -/
def okE (c : ByteArray) (o p : Nat) (e : XE) (bs : List UInt8) : Bool := match asmI e.1 with
  | [] => chkE c o p e
  | a :: l => bif pfx (a :: l) bs then (bif Nat.beq e.2.1 (a :: l).length then valE o e else false) else false
theorem okE_ok {c : ByteArray} {o p : Nat} {e : XE} (h : okE c o p e (c.data.toList.drop p) = true) : chkE c o p e = true := by
  unfold okE at h
  split at h
  · exact h
  · rename_i a l he
    cases h1 : pfx (a :: l) (c.data.toList.drop p) with
    | false => rw [h1] at h; cases h
    | true =>
      rw [h1, cond_true] at h
      cases h2 : Nat.beq e.2.1 (a :: l).length with
      | false => rw [h2] at h; cases h
      | true =>
        rw [h2, cond_true] at h
        have h3 := asmB_ok (c := c) (pc := p) (i := e.1) (by rw [he]; exact List.cons_ne_nil _ _) (by rw [he]; exact h1)
        rw [he, ← Nat.eq_of_beq_eq_true h2] at h3
        unfold chkE
        rw [decide_eq_true h3, h]
        rfl
noncomputable def wk (c : ByteArray) (o : Nat) (r : List (Option XE)) : Nat → List UInt8 → Bool := List.rec (motive := fun _ => Nat → List UInt8 → Bool) (fun _ _ => true) (fun q _ ih p bs => bif Option.rec (motive := fun _ => Bool) true (fun e => okE c o p e bs) q then List.rec (motive := fun _ => Bool) (ih (Nat.succ p) []) (fun _ t _ => ih (Nat.succ p) t) bs else false) r
theorem wk_ok {c : ByteArray} {o : Nat} {r : List (Option XE)} : ∀ {p : Nat}, wk c o r p (c.data.toList.drop p) = true → ∀ (k : Nat) (e : XE), r[k]? = some (some e) → chkE c o (p + k) e = true := by
  induction r with
  | nil => intro p _ k e he; cases he
  | cons q r ih =>
    intro p h k e he
    have h1 : (bif Option.rec (motive := fun _ => Bool) true (fun e => okE c o p e (c.data.toList.drop p)) q then List.rec (motive := fun _ => Bool) (wk c o r (Nat.succ p) []) (fun _ t _ => wk c o r (Nat.succ p) t) (c.data.toList.drop p) else false) = true := h
    cases h2 : (Option.rec (motive := fun _ => Bool) true (fun e => okE c o p e (c.data.toList.drop p)) q : Bool) with
    | false => rw [h2] at h1; cases h1
    | true =>
      rw [h2, cond_true] at h1
      have h3 : wk c o r (Nat.succ p) (c.data.toList.drop (p + 1)) = true := by
        cases hd : c.data.toList.drop p with
        | nil =>
          rw [hd] at h1
          have : c.data.toList.drop (p + 1) = [] := by
            have h4 := congrArg List.tail hd
            rw [List.tail_drop] at h4
            exact h4
          rw [this]
          exact h1
        | cons x t =>
          rw [hd] at h1
          obtain ⟨-, -, h4⟩ := drop_cons hd
          rw [h4]
          exact h1
      cases k with
      | zero =>
        have hq : q = some e := by simpa using he
        subst hq
        exact okE_ok h2
      | succ k =>
        have h5 := ih h3 k e (by simpa using he)
        rw [show p + (k + 1) = p + 1 + k by omega]
        exact h5
noncomputable def wkR (c : ByteArray) (o : Nat) (tb : List (List (Option XE))) : Nat → List UInt8 → Bool := List.rec (motive := fun _ => Nat → List UInt8 → Bool) (fun _ _ => true) (fun r _ ih p bs => bif wk c o r p bs then ih (Nat.add p 16) (List.drop 16 bs) else false) tb
theorem wkR_ok {c : ByteArray} {o : Nat} {tb : List (List (Option XE))} : ∀ {p : Nat}, wkR c o tb p (c.data.toList.drop p) = true → ∀ (j k : Nat) (r : List (Option XE)) (e : XE), tb[j]? = some r → r[k]? = some (some e) → chkE c o (p + 16 * j + k) e = true := by
  induction tb with
  | nil => intro p _ j k r e hr; cases hr
  | cons q tb ih =>
    intro p h j k r e hr he
    have h1 : (bif wk c o q p (c.data.toList.drop p) then wkR c o tb (Nat.add p 16) (List.drop 16 (c.data.toList.drop p)) else false) = true := h
    cases h2 : wk c o q p (c.data.toList.drop p) with
    | false => rw [h2] at h1; cases h1
    | true =>
      rw [h2, cond_true, List.drop_drop] at h1
      cases j with
      | zero =>
        have hq : q = r := by simpa using hr
        subst hq
        exact wk_ok h2 k e he
      | succ j =>
        have h5 := ih (p := p + 16) h1 j k r e (by simpa using hr) he
        rw [show p + 16 * (j + 1) + k = p + 16 + 16 * j + k by omega]
        exact h5
theorem tbOk_wk {c : ByteArray} {o : Nat} {tb : List (List (Option XE))} (h : wkR c o tb 0 c.data.toList = true) : tbOk c o tb = true := by
  unfold tbOk
  refine List.all_eq_true.mpr fun pc hpc => ?_
  split
  · rename_i e he
    unfold tbGet at he
    cases h1 : tb[pc / 16]? with
    | none => rw [h1] at he; cases he
    | some r =>
      rw [h1] at he
      cases h2 : r[pc % 16]? with
      | none => rw [show (some r).bind (fun r => r[pc % 16]?) = r[pc % 16]? from rfl, h2] at he; cases he
      | some q =>
        rw [show (some r).bind (fun r => r[pc % 16]?) = r[pc % 16]? from rfl, h2] at he
        have hq : q = some e := he
        subst hq
        have h3 := wkR_ok (c := c) (p := 0) h (pc / 16) (pc % 16) r e h1 h2
        rw [show 0 + 16 * (pc / 16) + pc % 16 = pc by omega] at h3
        exact h3
  · rfl
set_option maxRecDepth 100000 in
theorem to0 : tbOk prog_1_method_1_code 0 tb0 = true := tbOk_wk (by decide +kernel)
set_option maxRecDepth 100000 in
theorem to1 : tbOk prog_6_method_1_code 1 tb1 = true := tbOk_wk (by decide +kernel)
set_option maxRecDepth 100000 in
theorem to2 : tbOk prog_11_method_1_code 3 tb2 = true := tbOk_wk (by decide +kernel)
set_option maxRecDepth 100000 in
theorem to3 : tbOk prog_10_method_1_code 4 tb3 = true := tbOk_wk (by decide +kernel)
set_option maxRecDepth 100000 in
theorem to4 : tbOk prog_9_method_1_code 5 tb4 = true := tbOk_wk (by decide +kernel)
set_option maxRecDepth 100000 in
theorem to5 : tbOk prog_2_method_1_code 6 tb5 = true := tbOk_wk (by decide +kernel)
set_option maxRecDepth 100000 in
theorem to6 : tbOk prog_7_method_1_code 2 tb6 = true := tbOk_wk (by decide +kernel)
set_option maxRecDepth 100000 in
theorem to7 : tbOk prog_3_method_1_code 7 tb7 = true := tbOk_wk (by decide +kernel)
set_option maxRecDepth 100000 in
theorem to8 : tbOk prog_12_method_1_code 9 tb8 = true := tbOk_wk (by decide +kernel)
set_option maxRecDepth 100000 in
theorem to9 : tbOk prog_4_method_1_code 8 tb9 = true := tbOk_wk (by decide +kernel)
set_option maxRecDepth 100000 in
theorem to10 : tbOk prog_5_method_1_code 10 tb10 = true := tbOk_wk (by decide +kernel)
set_option maxRecDepth 100000 in
theorem to11 : tbOk prog_1_method_2_code 0 tb11 = true := tbOk_wk (by decide +kernel)
set_option maxRecDepth 100000 in
theorem to12 : tbOk prog_1_method_41_code 0 tb12 = true := tbOk_wk (by decide +kernel)
set_option maxRecDepth 100000 in
theorem to13 : tbOk prog_3_method_2_code 7 tb13 = true := tbOk_wk (by decide +kernel)
set_option maxRecDepth 100000 in
theorem to14 : tbOk prog_4_method_2_code 8 tb14 = true := tbOk_wk (by decide +kernel)
set_option maxRecDepth 100000 in
theorem to15 : tbOk prog_1_method_3_code 0 tb15 = true := tbOk_wk (by decide +kernel)
set_option maxRecDepth 100000 in
theorem to16 : tbOk prog_1_method_43_code 0 tb16 = true := tbOk_wk (by decide +kernel)
set_option maxRecDepth 100000 in
theorem to17 : tbOk prog_1_method_42_code 0 tb17 = true := tbOk_wk (by decide +kernel)
set_option maxRecDepth 100000 in
theorem to18 : tbOk prog_7_method_2_code 2 tb18 = true := tbOk_wk (by decide +kernel)
set_option maxRecDepth 100000 in
theorem to19 : tbOk prog_1_method_4_code 0 tb19 = true := tbOk_wk (by decide +kernel)
set_option maxRecDepth 100000 in
theorem to20 : tbOk prog_1_method_5_code 0 tb20 = true := tbOk_wk (by decide +kernel)
set_option maxRecDepth 100000 in
theorem to21 : tbOk prog_11_method_2_code 3 tb21 = true := tbOk_wk (by decide +kernel)
set_option maxRecDepth 100000 in
theorem to22 : tbOk prog_11_method_3_code 3 tb22 = true := tbOk_wk (by decide +kernel)
set_option maxRecDepth 100000 in
theorem to23 : tbOk prog_1_method_6_code 0 tb23 = true := tbOk_wk (by decide +kernel)
set_option maxRecDepth 100000 in
theorem to24 : tbOk prog_1_method_7_code 0 tb24 = true := tbOk_wk (by decide +kernel)
set_option maxRecDepth 100000 in
theorem to25 : tbOk prog_1_method_8_code 0 tb25 = true := tbOk_wk (by decide +kernel)
set_option maxRecDepth 100000 in
theorem to26 : tbOk prog_1_method_9_code 0 tb26 = true := tbOk_wk (by decide +kernel)
set_option maxRecDepth 100000 in
theorem to27 : tbOk prog_10_method_2_code 4 tb27 = true := tbOk_wk (by decide +kernel)
set_option maxRecDepth 100000 in
theorem to28 : tbOk prog_1_method_10_code 0 tb28 = true := tbOk_wk (by decide +kernel)
set_option maxRecDepth 100000 in
theorem to29 : tbOk prog_1_method_11_code 0 tb29 = true := tbOk_wk (by decide +kernel)
set_option maxRecDepth 100000 in
theorem to30 : tbOk prog_1_method_12_code 0 tb30 = true := tbOk_wk (by decide +kernel)
set_option maxRecDepth 100000 in
theorem to31 : tbOk prog_1_method_13_code 0 tb31 = true := tbOk_wk (by decide +kernel)
set_option maxRecDepth 100000 in
theorem to32 : tbOk prog_9_method_2_code 5 tb32 = true := tbOk_wk (by decide +kernel)
set_option maxRecDepth 100000 in
theorem to33 : tbOk prog_9_method_5_code 5 tb33 = true := tbOk_wk (by decide +kernel)
set_option maxRecDepth 100000 in
theorem to34 : tbOk prog_9_method_9_code 5 tb34 = true := tbOk_wk (by decide +kernel)
set_option maxRecDepth 100000 in
theorem to35 : tbOk prog_9_method_10_code 5 tb35 = true := tbOk_wk (by decide +kernel)
set_option maxRecDepth 100000 in
theorem to36 : tbOk prog_9_method_11_code 5 tb36 = true := tbOk_wk (by decide +kernel)
set_option maxRecDepth 100000 in
theorem to37 : tbOk prog_9_method_12_code 5 tb37 = true := tbOk_wk (by decide +kernel)
set_option maxRecDepth 100000 in
theorem to38 : tbOk prog_9_method_13_code 5 tb38 = true := tbOk_wk (by decide +kernel)
set_option maxRecDepth 100000 in
theorem to39 : tbOk prog_9_method_14_code 5 tb39 = true := tbOk_wk (by decide +kernel)
set_option maxRecDepth 100000 in
theorem to40 : tbOk prog_9_method_7_code 5 tb40 = true := tbOk_wk (by decide +kernel)
set_option maxRecDepth 100000 in
theorem to41 : tbOk prog_9_method_15_code 5 tb41 = true := tbOk_wk (by decide +kernel)
set_option maxRecDepth 100000 in
theorem to42 : tbOk prog_9_method_16_code 5 tb42 = true := tbOk_wk (by decide +kernel)
set_option maxRecDepth 100000 in
theorem to43 : tbOk prog_9_method_6_code 5 tb43 = true := tbOk_wk (by decide +kernel)
set_option maxRecDepth 100000 in
theorem to44 : tbOk prog_9_method_8_code 5 tb44 = true := tbOk_wk (by decide +kernel)
set_option maxRecDepth 100000 in
theorem to45 : tbOk prog_9_method_17_code 5 tb45 = true := tbOk_wk (by decide +kernel)
set_option maxRecDepth 100000 in
theorem to46 : tbOk prog_1_method_14_code 0 tb46 = true := tbOk_wk (by decide +kernel)
set_option maxRecDepth 100000 in
theorem to47 : tbOk prog_9_method_3_code 5 tb47 = true := tbOk_wk (by decide +kernel)
set_option maxRecDepth 100000 in
theorem to48 : tbOk prog_1_method_15_code 0 tb48 = true := tbOk_wk (by decide +kernel)
set_option maxRecDepth 100000 in
theorem to49 : tbOk prog_1_method_16_code 0 tb49 = true := tbOk_wk (by decide +kernel)
set_option maxRecDepth 100000 in
theorem to50 : tbOk prog_5_method_2_code 10 tb50 = true := tbOk_wk (by decide +kernel)
set_option maxRecDepth 100000 in
theorem to51 : tbOk prog_5_method_3_code 10 tb51 = true := tbOk_wk (by decide +kernel)
set_option maxRecDepth 100000 in
theorem to52 : tbOk prog_5_method_4_code 10 tb52 = true := tbOk_wk (by decide +kernel)
set_option maxRecDepth 100000 in
theorem to53 : tbOk prog_5_method_5_code 10 tb53 = true := tbOk_wk (by decide +kernel)
set_option maxRecDepth 100000 in
theorem to54 : tbOk prog_3_method_4_code 7 tb54 = true := tbOk_wk (by decide +kernel)
set_option maxRecDepth 100000 in
theorem to55 : tbOk prog_5_method_6_code 10 tb55 = true := tbOk_wk (by decide +kernel)
set_option maxRecDepth 100000 in
theorem to56 : tbOk prog_10_method_3_code 4 tb56 = true := tbOk_wk (by decide +kernel)
set_option maxRecDepth 100000 in
theorem to57 : tbOk prog_1_method_45_code 0 tb57 = true := tbOk_wk (by decide +kernel)
set_option maxRecDepth 100000 in
theorem to58 : tbOk prog_5_method_7_code 10 tb58 = true := tbOk_wk (by decide +kernel)
set_option maxRecDepth 100000 in
theorem to59 : tbOk prog_12_method_2_code 9 tb59 = true := tbOk_wk (by decide +kernel)
set_option maxRecDepth 100000 in
theorem to60 : tbOk prog_3_method_3_code 7 tb60 = true := tbOk_wk (by decide +kernel)
set_option maxRecDepth 100000 in
theorem to61 : tbOk prog_5_method_8_code 10 tb61 = true := tbOk_wk (by decide +kernel)
set_option maxRecDepth 100000 in
theorem to62 : tbOk prog_16_method_69_code 16 tb62 = true := tbOk_wk (by decide +kernel)
set_option maxRecDepth 100000 in
theorem to63 : tbOk prog_5_method_9_code 10 tb63 = true := tbOk_wk (by decide +kernel)
set_option maxRecDepth 100000 in
theorem to64 : tbOk prog_16_method_65_code 16 tb64 = true := tbOk_wk (by decide +kernel)
set_option maxRecDepth 100000 in
theorem to65 : tbOk prog_12_method_3_code 9 tb65 = true := tbOk_wk (by decide +kernel)
set_option maxRecDepth 100000 in
theorem to66 : tbOk prog_5_method_10_code 10 tb66 = true := tbOk_wk (by decide +kernel)
set_option maxRecDepth 100000 in
theorem to67 : tbOk prog_15_method_49_code 15 tb67 = true := tbOk_wk (by decide +kernel)
set_option maxRecDepth 100000 in
theorem to68 : tbOk prog_5_method_11_code 10 tb68 = true := tbOk_wk (by decide +kernel)
set_option maxRecDepth 100000 in
theorem to69 : tbOk prog_12_method_4_code 9 tb69 = true := tbOk_wk (by decide +kernel)
set_option maxRecDepth 100000 in
theorem to70 : tbOk prog_12_method_5_code 9 tb70 = true := tbOk_wk (by decide +kernel)
set_option maxRecDepth 100000 in
theorem to71 : tbOk prog_12_method_6_code 9 tb71 = true := tbOk_wk (by decide +kernel)
set_option maxRecDepth 100000 in
theorem to72 : tbOk prog_5_method_12_code 10 tb72 = true := tbOk_wk (by decide +kernel)
set_option maxRecDepth 100000 in
theorem to73 : tbOk prog_12_method_7_code 9 tb73 = true := tbOk_wk (by decide +kernel)
set_option maxRecDepth 100000 in
theorem to74 : tbOk prog_5_method_13_code 10 tb74 = true := tbOk_wk (by decide +kernel)
set_option maxRecDepth 100000 in
theorem to75 : tbOk prog_16_method_61_code 16 tb75 = true := tbOk_wk (by decide +kernel)
set_option maxRecDepth 100000 in
theorem to76 : tbOk prog_5_method_14_code 10 tb76 = true := tbOk_wk (by decide +kernel)
set_option maxRecDepth 100000 in
theorem to77 : tbOk prog_5_method_15_code 10 tb77 = true := tbOk_wk (by decide +kernel)
set_option maxRecDepth 100000 in
theorem to78 : tbOk prog_1_method_44_code 0 tb78 = true := tbOk_wk (by decide +kernel)
set_option maxRecDepth 100000 in
theorem to79 : tbOk prog_5_method_16_code 10 tb79 = true := tbOk_wk (by decide +kernel)
set_option maxRecDepth 100000 in
theorem to80 : tbOk prog_5_method_17_code 10 tb80 = true := tbOk_wk (by decide +kernel)
set_option maxRecDepth 100000 in
theorem to81 : tbOk prog_4_method_3_code 8 tb81 = true := tbOk_wk (by decide +kernel)
set_option maxRecDepth 100000 in
theorem to82 : tbOk prog_5_method_18_code 10 tb82 = true := tbOk_wk (by decide +kernel)
set_option maxRecDepth 100000 in
theorem to83 : tbOk prog_9_method_18_code 5 tb83 = true := tbOk_wk (by decide +kernel)
set_option maxRecDepth 100000 in
theorem to84 : tbOk prog_9_method_20_code 5 tb84 = true := tbOk_wk (by decide +kernel)
set_option maxRecDepth 100000 in
theorem to85 : tbOk prog_9_method_19_code 5 tb85 = true := tbOk_wk (by decide +kernel)
set_option maxRecDepth 100000 in
theorem to86 : tbOk prog_9_method_21_code 5 tb86 = true := tbOk_wk (by decide +kernel)
set_option maxRecDepth 100000 in
theorem to87 : tbOk prog_5_method_19_code 10 tb87 = true := tbOk_wk (by decide +kernel)
set_option maxRecDepth 100000 in
theorem to88 : tbOk prog_1_method_17_code 0 tb88 = true := tbOk_wk (by decide +kernel)
set_option maxRecDepth 100000 in
theorem to89 : tbOk prog_1_method_18_code 0 tb89 = true := tbOk_wk (by decide +kernel)
set_option maxRecDepth 100000 in
theorem to90 : tbOk prog_1_method_39_code 0 tb90 = true := tbOk_wk (by decide +kernel)
set_option maxRecDepth 100000 in
theorem to91 : tbOk prog_1_method_19_code 0 tb91 = true := tbOk_wk (by decide +kernel)
set_option maxRecDepth 100000 in
theorem to92 : tbOk prog_1_method_20_code 0 tb92 = true := tbOk_wk (by decide +kernel)
set_option maxRecDepth 100000 in
theorem to93 : tbOk prog_1_method_21_code 0 tb93 = true := tbOk_wk (by decide +kernel)
set_option maxRecDepth 100000 in
theorem to94 : tbOk prog_1_method_22_code 0 tb94 = true := tbOk_wk (by decide +kernel)
set_option maxRecDepth 100000 in
theorem to95 : tbOk prog_2_method_2_code 6 tb95 = true := tbOk_wk (by decide +kernel)
set_option maxRecDepth 100000 in
theorem to96 : tbOk prog_1_method_23_code 0 tb96 = true := tbOk_wk (by decide +kernel)
set_option maxRecDepth 100000 in
theorem to97 : tbOk prog_1_method_24_code 0 tb97 = true := tbOk_wk (by decide +kernel)
set_option maxRecDepth 100000 in
theorem to98 : tbOk prog_1_method_25_code 0 tb98 = true := tbOk_wk (by decide +kernel)
set_option maxRecDepth 100000 in
theorem to99 : tbOk prog_7_method_3_code 2 tb99 = true := tbOk_wk (by decide +kernel)
set_option maxRecDepth 100000 in
theorem to100 : tbOk prog_1_method_26_code 0 tb100 = true := tbOk_wk (by decide +kernel)
set_option maxRecDepth 100000 in
theorem to101 : tbOk prog_1_method_27_code 0 tb101 = true := tbOk_wk (by decide +kernel)
set_option maxRecDepth 100000 in
theorem to102 : tbOk prog_1_method_40_code 0 tb102 = true := tbOk_wk (by decide +kernel)
set_option maxRecDepth 100000 in
theorem to103 : tbOk prog_8_method_1_code 11 tb103 = true := tbOk_wk (by decide +kernel)
set_option maxRecDepth 100000 in
theorem to104 : tbOk prog_8_method_2_code 11 tb104 = true := tbOk_wk (by decide +kernel)
set_option maxRecDepth 100000 in
theorem to105 : tbOk prog_3_method_6_code 7 tb105 = true := tbOk_wk (by decide +kernel)
set_option maxRecDepth 100000 in
theorem to106 : tbOk prog_4_method_4_code 8 tb106 = true := tbOk_wk (by decide +kernel)
set_option maxRecDepth 100000 in
theorem to107 : tbOk prog_12_method_8_code 9 tb107 = true := tbOk_wk (by decide +kernel)
set_option maxRecDepth 100000 in
theorem to108 : tbOk prog_8_method_3_code 11 tb108 = true := tbOk_wk (by decide +kernel)
set_option maxRecDepth 100000 in
theorem to109 : tbOk prog_16_method_59_code 16 tb109 = true := tbOk_wk (by decide +kernel)
set_option maxRecDepth 100000 in
theorem to110 : tbOk prog_8_method_4_code 11 tb110 = true := tbOk_wk (by decide +kernel)
set_option maxRecDepth 100000 in
theorem to111 : tbOk prog_3_method_5_code 7 tb111 = true := tbOk_wk (by decide +kernel)
set_option maxRecDepth 100000 in
theorem to112 : tbOk prog_4_method_5_code 8 tb112 = true := tbOk_wk (by decide +kernel)
set_option maxRecDepth 100000 in
theorem to113 : tbOk prog_1_method_28_code 0 tb113 = true := tbOk_wk (by decide +kernel)
set_option maxRecDepth 100000 in
theorem to114 : tbOk prog_6_method_2_code 1 tb114 = true := tbOk_wk (by decide +kernel)
set_option maxRecDepth 100000 in
theorem to115 : tbOk prog_7_method_4_code 2 tb115 = true := tbOk_wk (by decide +kernel)
set_option maxRecDepth 100000 in
theorem to116 : tbOk prog_1_method_29_code 0 tb116 = true := tbOk_wk (by decide +kernel)
set_option maxRecDepth 100000 in
theorem to117 : tbOk prog_1_method_30_code 0 tb117 = true := tbOk_wk (by decide +kernel)
set_option maxRecDepth 100000 in
theorem to118 : tbOk prog_1_method_31_code 0 tb118 = true := tbOk_wk (by decide +kernel)
set_option maxRecDepth 100000 in
theorem to119 : tbOk prog_8_method_5_code 11 tb119 = true := tbOk_wk (by decide +kernel)
set_option maxRecDepth 100000 in
theorem to120 : tbOk prog_8_method_8_code 11 tb120 = true := tbOk_wk (by decide +kernel)
set_option maxRecDepth 100000 in
theorem to121 : tbOk prog_8_method_7_code 11 tb121 = true := tbOk_wk (by decide +kernel)
set_option maxRecDepth 100000 in
theorem to122 : tbOk prog_8_method_6_code 11 tb122 = true := tbOk_wk (by decide +kernel)
set_option maxRecDepth 100000 in
theorem to123 : tbOk prog_1_method_32_code 0 tb123 = true := tbOk_wk (by decide +kernel)
set_option maxRecDepth 100000 in
theorem to124 : tbOk prog_10_method_4_code 4 tb124 = true := tbOk_wk (by decide +kernel)
set_option maxRecDepth 100000 in
theorem to125 : tbOk prog_10_method_5_code 4 tb125 = true := tbOk_wk (by decide +kernel)
set_option maxRecDepth 100000 in
theorem to126 : tbOk prog_10_method_6_code 4 tb126 = true := tbOk_wk (by decide +kernel)
set_option maxRecDepth 100000 in
theorem to127 : tbOk prog_10_method_7_code 4 tb127 = true := tbOk_wk (by decide +kernel)
set_option maxRecDepth 100000 in
theorem to128 : tbOk prog_1_method_33_code 0 tb128 = true := tbOk_wk (by decide +kernel)
set_option maxRecDepth 100000 in
theorem to129 : tbOk prog_1_method_34_code 0 tb129 = true := tbOk_wk (by decide +kernel)
set_option maxRecDepth 100000 in
theorem to130 : tbOk prog_5_method_20_code 10 tb130 = true := tbOk_wk (by decide +kernel)
set_option maxRecDepth 100000 in
theorem to131 : tbOk prog_16_method_70_code 16 tb131 = true := tbOk_wk (by decide +kernel)
set_option maxRecDepth 100000 in
theorem to132 : tbOk prog_16_method_66_code 16 tb132 = true := tbOk_wk (by decide +kernel)
set_option maxRecDepth 100000 in
theorem to133 : tbOk prog_1_method_35_code 0 tb133 = true := tbOk_wk (by decide +kernel)
set_option maxRecDepth 100000 in
theorem to134 : tbOk prog_6_method_3_code 1 tb134 = true := tbOk_wk (by decide +kernel)
set_option maxRecDepth 100000 in
theorem to135 : tbOk prog_7_method_5_code 2 tb135 = true := tbOk_wk (by decide +kernel)
set_option maxRecDepth 100000 in
theorem to136 : tbOk prog_11_method_4_code 3 tb136 = true := tbOk_wk (by decide +kernel)
set_option maxRecDepth 100000 in
theorem to137 : tbOk prog_10_method_8_code 4 tb137 = true := tbOk_wk (by decide +kernel)
set_option maxRecDepth 100000 in
theorem to138 : tbOk prog_9_method_4_code 5 tb138 = true := tbOk_wk (by decide +kernel)
set_option maxRecDepth 100000 in
theorem to139 : tbOk prog_2_method_3_code 6 tb139 = true := tbOk_wk (by decide +kernel)
set_option maxRecDepth 100000 in
theorem to140 : tbOk prog_1_method_36_code 0 tb140 = true := tbOk_wk (by decide +kernel)
set_option maxRecDepth 100000 in
theorem to141 : tbOk prog_1_method_37_code 0 tb141 = true := tbOk_wk (by decide +kernel)
set_option maxRecDepth 100000 in
theorem to142 : tbOk prog_1_method_38_code 0 tb142 = true := tbOk_wk (by decide +kernel)
set_option maxRecDepth 100000 in
theorem to143 : tbOk prog_14_method_3_code 12 tb143 = true := tbOk_wk (by decide +kernel)
set_option maxRecDepth 100000 in
theorem to144 : tbOk prog_14_method_7_code 12 tb144 = true := tbOk_wk (by decide +kernel)
set_option maxRecDepth 100000 in
theorem to145 : tbOk prog_14_method_2_code 12 tb145 = true := tbOk_wk (by decide +kernel)
set_option maxRecDepth 100000 in
theorem to146 : tbOk prog_14_method_10_code 12 tb146 = true := tbOk_wk (by decide +kernel)
set_option maxRecDepth 100000 in
theorem to147 : tbOk prog_14_method_8_code 12 tb147 = true := tbOk_wk (by decide +kernel)
set_option maxRecDepth 100000 in
theorem to148 : tbOk prog_14_method_9_code 12 tb148 = true := tbOk_wk (by decide +kernel)
set_option maxRecDepth 100000 in
theorem to149 : tbOk prog_14_method_11_code 12 tb149 = true := tbOk_wk (by decide +kernel)
set_option maxRecDepth 100000 in
theorem to150 : tbOk prog_14_method_12_code 12 tb150 = true := tbOk_wk (by decide +kernel)
set_option maxRecDepth 100000 in
theorem to151 : tbOk prog_14_method_13_code 12 tb151 = true := tbOk_wk (by decide +kernel)
set_option maxRecDepth 100000 in
theorem to152 : tbOk prog_14_method_14_code 12 tb152 = true := tbOk_wk (by decide +kernel)
set_option maxRecDepth 100000 in
theorem to153 : tbOk prog_14_method_15_code 12 tb153 = true := tbOk_wk (by decide +kernel)
set_option maxRecDepth 100000 in
theorem to154 : tbOk prog_14_method_16_code 12 tb154 = true := tbOk_wk (by decide +kernel)
set_option maxRecDepth 100000 in
theorem to155 : tbOk prog_14_method_17_code 12 tb155 = true := tbOk_wk (by decide +kernel)
set_option maxRecDepth 100000 in
theorem to156 : tbOk prog_14_method_18_code 12 tb156 = true := tbOk_wk (by decide +kernel)
set_option maxRecDepth 100000 in
theorem to157 : tbOk prog_14_method_19_code 12 tb157 = true := tbOk_wk (by decide +kernel)
set_option maxRecDepth 100000 in
theorem to158 : tbOk prog_14_method_32_code 12 tb158 = true := tbOk_wk (by decide +kernel)
set_option maxRecDepth 100000 in
theorem to159 : tbOk prog_14_method_33_code 12 tb159 = true := tbOk_wk (by decide +kernel)
set_option maxRecDepth 100000 in
theorem to160 : tbOk prog_14_method_34_code 12 tb160 = true := tbOk_wk (by decide +kernel)
set_option maxRecDepth 100000 in
theorem to161 : tbOk prog_14_method_27_code 12 tb161 = true := tbOk_wk (by decide +kernel)
set_option maxRecDepth 100000 in
theorem to162 : tbOk prog_14_method_22_code 12 tb162 = true := tbOk_wk (by decide +kernel)
set_option maxRecDepth 100000 in
theorem to163 : tbOk prog_14_method_21_code 12 tb163 = true := tbOk_wk (by decide +kernel)
set_option maxRecDepth 100000 in
theorem to164 : tbOk prog_14_method_20_code 12 tb164 = true := tbOk_wk (by decide +kernel)
set_option maxRecDepth 100000 in
theorem to165 : tbOk prog_14_method_25_code 12 tb165 = true := tbOk_wk (by decide +kernel)
set_option maxRecDepth 100000 in
theorem to166 : tbOk prog_14_method_26_code 12 tb166 = true := tbOk_wk (by decide +kernel)
set_option maxRecDepth 100000 in
theorem to167 : tbOk prog_14_method_23_code 12 tb167 = true := tbOk_wk (by decide +kernel)
set_option maxRecDepth 100000 in
theorem to168 : tbOk prog_14_method_24_code 12 tb168 = true := tbOk_wk (by decide +kernel)
set_option maxRecDepth 100000 in
theorem to169 : tbOk prog_14_method_54_code 12 tb169 = true := tbOk_wk (by decide +kernel)
set_option maxRecDepth 100000 in
theorem to170 : tbOk prog_14_method_53_code 12 tb170 = true := tbOk_wk (by decide +kernel)
set_option maxRecDepth 100000 in
theorem to171 : tbOk prog_14_method_35_code 12 tb171 = true := tbOk_wk (by decide +kernel)
set_option maxRecDepth 100000 in
theorem to172 : tbOk prog_14_method_37_code 12 tb172 = true := tbOk_wk (by decide +kernel)
set_option maxRecDepth 100000 in
theorem to173 : tbOk prog_14_method_5_code 12 tb173 = true := tbOk_wk (by decide +kernel)
set_option maxRecDepth 100000 in
theorem to174 : tbOk prog_14_method_36_code 12 tb174 = true := tbOk_wk (by decide +kernel)
set_option maxRecDepth 100000 in
theorem to175 : tbOk prog_14_method_6_code 12 tb175 = true := tbOk_wk (by decide +kernel)
set_option maxRecDepth 100000 in
theorem to176 : tbOk prog_14_method_41_code 12 tb176 = true := tbOk_wk (by decide +kernel)
set_option maxRecDepth 100000 in
theorem to177 : tbOk prog_14_method_40_code 12 tb177 = true := tbOk_wk (by decide +kernel)
set_option maxRecDepth 100000 in
theorem to178 : tbOk prog_14_method_38_code 12 tb178 = true := tbOk_wk (by decide +kernel)
set_option maxRecDepth 100000 in
theorem to179 : tbOk prog_14_method_39_code 12 tb179 = true := tbOk_wk (by decide +kernel)
set_option maxRecDepth 100000 in
theorem to180 : tbOk prog_14_method_44_code 12 tb180 = true := tbOk_wk (by decide +kernel)
set_option maxRecDepth 100000 in
theorem to181 : tbOk prog_14_method_43_code 12 tb181 = true := tbOk_wk (by decide +kernel)
set_option maxRecDepth 100000 in
theorem to182 : tbOk prog_14_method_42_code 12 tb182 = true := tbOk_wk (by decide +kernel)
set_option maxRecDepth 100000 in
theorem to183 : tbOk prog_14_method_49_code 12 tb183 = true := tbOk_wk (by decide +kernel)
set_option maxRecDepth 100000 in
theorem to184 : tbOk prog_14_method_47_code 12 tb184 = true := tbOk_wk (by decide +kernel)
set_option maxRecDepth 100000 in
theorem to185 : tbOk prog_14_method_45_code 12 tb185 = true := tbOk_wk (by decide +kernel)
set_option maxRecDepth 100000 in
theorem to186 : tbOk prog_14_method_46_code 12 tb186 = true := tbOk_wk (by decide +kernel)
set_option maxRecDepth 100000 in
theorem to187 : tbOk prog_14_method_48_code 12 tb187 = true := tbOk_wk (by decide +kernel)
set_option maxRecDepth 100000 in
theorem to188 : tbOk prog_14_method_28_code 12 tb188 = true := tbOk_wk (by decide +kernel)
set_option maxRecDepth 100000 in
theorem to189 : tbOk prog_14_method_51_code 12 tb189 = true := tbOk_wk (by decide +kernel)
set_option maxRecDepth 100000 in
theorem to190 : tbOk prog_14_method_50_code 12 tb190 = true := tbOk_wk (by decide +kernel)
set_option maxRecDepth 100000 in
theorem to191 : tbOk prog_14_method_52_code 12 tb191 = true := tbOk_wk (by decide +kernel)
set_option maxRecDepth 100000 in
theorem to192 : tbOk prog_14_method_31_code 12 tb192 = true := tbOk_wk (by decide +kernel)
set_option maxRecDepth 100000 in
theorem to193 : tbOk prog_14_method_29_code 12 tb193 = true := tbOk_wk (by decide +kernel)
set_option maxRecDepth 100000 in
theorem to194 : tbOk prog_14_method_4_code 12 tb194 = true := tbOk_wk (by decide +kernel)
set_option maxRecDepth 100000 in
theorem to195 : tbOk prog_14_method_30_code 12 tb195 = true := tbOk_wk (by decide +kernel)
set_option maxRecDepth 100000 in
theorem to196 : tbOk prog_14_method_56_code 12 tb196 = true := tbOk_wk (by decide +kernel)
set_option maxRecDepth 100000 in
theorem to197 : tbOk prog_14_method_55_code 12 tb197 = true := tbOk_wk (by decide +kernel)
set_option maxRecDepth 100000 in
theorem to198 : tbOk prog_14_method_57_code 12 tb198 = true := tbOk_wk (by decide +kernel)
set_option maxRecDepth 100000 in
theorem to199 : tbOk prog_14_method_58_code 12 tb199 = true := tbOk_wk (by decide +kernel)
set_option maxRecDepth 100000 in
theorem to200 : tbOk prog_14_method_59_code 12 tb200 = true := tbOk_wk (by decide +kernel)
set_option maxRecDepth 100000 in
theorem to201 : tbOk prog_14_method_60_code 12 tb201 = true := tbOk_wk (by decide +kernel)
set_option maxRecDepth 100000 in
theorem to202 : tbOk prog_14_method_61_code 12 tb202 = true := tbOk_wk (by decide +kernel)
set_option maxRecDepth 100000 in
theorem to203 : tbOk prog_14_method_62_code 12 tb203 = true := tbOk_wk (by decide +kernel)
set_option maxRecDepth 100000 in
theorem to204 : tbOk prog_14_method_63_code 12 tb204 = true := tbOk_wk (by decide +kernel)
set_option maxRecDepth 100000 in
theorem to205 : tbOk prog_14_method_65_code 12 tb205 = true := tbOk_wk (by decide +kernel)
set_option maxRecDepth 100000 in
theorem to206 : tbOk prog_14_method_64_code 12 tb206 = true := tbOk_wk (by decide +kernel)
set_option maxRecDepth 100000 in
theorem to207 : tbOk prog_14_method_66_code 12 tb207 = true := tbOk_wk (by decide +kernel)
set_option maxRecDepth 100000 in
theorem to208 : tbOk prog_14_method_72_code 12 tb208 = true := tbOk_wk (by decide +kernel)
set_option maxRecDepth 100000 in
theorem to209 : tbOk prog_14_method_67_code 12 tb209 = true := tbOk_wk (by decide +kernel)
set_option maxRecDepth 100000 in
theorem to210 : tbOk prog_14_method_69_code 12 tb210 = true := tbOk_wk (by decide +kernel)
set_option maxRecDepth 100000 in
theorem to211 : tbOk prog_14_method_68_code 12 tb211 = true := tbOk_wk (by decide +kernel)
set_option maxRecDepth 100000 in
theorem to212 : tbOk prog_14_method_71_code 12 tb212 = true := tbOk_wk (by decide +kernel)
set_option maxRecDepth 100000 in
theorem to213 : tbOk prog_14_method_70_code 12 tb213 = true := tbOk_wk (by decide +kernel)
set_option maxRecDepth 100000 in
theorem to214 : tbOk prog_14_method_73_code 12 tb214 = true := tbOk_wk (by decide +kernel)
set_option maxRecDepth 100000 in
theorem to215 : tbOk prog_14_method_74_code 12 tb215 = true := tbOk_wk (by decide +kernel)
set_option maxRecDepth 100000 in
theorem to216 : tbOk prog_14_method_75_code 12 tb216 = true := tbOk_wk (by decide +kernel)
set_option maxRecDepth 100000 in
theorem to217 : tbOk prog_14_method_77_code 12 tb217 = true := tbOk_wk (by decide +kernel)
set_option maxRecDepth 100000 in
theorem to218 : tbOk prog_14_method_76_code 12 tb218 = true := tbOk_wk (by decide +kernel)
set_option maxRecDepth 100000 in
theorem to219 : tbOk prog_14_method_79_code 12 tb219 = true := tbOk_wk (by decide +kernel)
set_option maxRecDepth 100000 in
theorem to220 : tbOk prog_14_method_78_code 12 tb220 = true := tbOk_wk (by decide +kernel)
set_option maxRecDepth 100000 in
theorem to221 : tbOk prog_14_method_80_code 12 tb221 = true := tbOk_wk (by decide +kernel)
set_option maxRecDepth 100000 in
theorem to222 : tbOk prog_14_method_81_code 12 tb222 = true := tbOk_wk (by decide +kernel)
set_option maxRecDepth 100000 in
theorem to223 : tbOk prog_14_method_82_code 12 tb223 = true := tbOk_wk (by decide +kernel)
set_option maxRecDepth 100000 in
theorem to224 : tbOk prog_14_method_83_code 12 tb224 = true := tbOk_wk (by decide +kernel)
set_option maxRecDepth 100000 in
theorem to225 : tbOk prog_14_method_84_code 12 tb225 = true := tbOk_wk (by decide +kernel)
set_option maxRecDepth 100000 in
theorem to226 : tbOk prog_14_method_85_code 12 tb226 = true := tbOk_wk (by decide +kernel)
set_option maxRecDepth 100000 in
theorem toLaw : tbOk code 13 tbLaw = true := tbOk_wk (by decide +kernel)
set_option maxRecDepth 100000 in
theorem ms_2 : ∀ q ∈ meths, tbOk (mBy q) (mOw q) (mTb q) = true := by
  show ∀ q ∈ [me0, me1, me2, me3, me4, me5, me6, me7, me8, me9, me10, me11, me12, me13, me14, me15, me16, me17, me18, me19, me20, me21, me22, me23, me24, me25, me26, me27, me28, me29, me30, me31, me32, me33, me34, me35, me36, me37, me38, me39, me40, me41, me42, me43, me44, me45, me46, me47, me48, me49, me50, me51, me52, me53, me54, me55, me56, me57, me58, me59, me60, me61, me62, me63, me64, me65, me66, me67, me68, me69, me70, me71, me72, me73, me74, me75, me76, me77, me78, me79, me80, me81, me82, me83, me84, me85, me86, me87, me88, me89, me90, me91, me92, me93, me94, me95, me96, me97, me98, me99, me100, me101, me102, me103, me104, me105, me106, me107, me108, me109, me110, me111, me112, me113, me114, me115, me116, me117, me118, me119, me120, me121, me122, me123, me124, me125, me126, me127, me128, me129, me130, me131, me132, me133, me134, me135, me136, me137, me138, me139, me140, me141, me142, me143, me144, me145, me146, me147, me148, me149, me150, me151, me152, me153, me154, me155, me156, me157, me158, me159, me160, me161, me162, me163, me164, me165, me166, me167, me168, me169, me170, me171, me172, me173, me174, me175, me176, me177, me178, me179, me180, me181, me182, me183, me184, me185, me186, me187, me188, me189, me190, me191, me192, me193, me194, me195, me196, me197, me198, me199, me200, me201, me202, me203, me204, me205, me206, me207, me208, me209, me210, me211, me212, me213, me214, me215, me216, me217, me218, me219, me220, me221, me222, me223, me224, me225, me226], tbOk (mBy q) (mOw q) (mTb q) = true
  exact List.forall_mem_cons.mpr ⟨to0, List.forall_mem_cons.mpr ⟨to1, List.forall_mem_cons.mpr ⟨to2, List.forall_mem_cons.mpr ⟨to3, List.forall_mem_cons.mpr ⟨to4, List.forall_mem_cons.mpr ⟨to5, List.forall_mem_cons.mpr ⟨to6, List.forall_mem_cons.mpr ⟨to7, List.forall_mem_cons.mpr ⟨to8, List.forall_mem_cons.mpr ⟨to9, List.forall_mem_cons.mpr ⟨to10, List.forall_mem_cons.mpr ⟨to11, List.forall_mem_cons.mpr ⟨to12, List.forall_mem_cons.mpr ⟨to13, List.forall_mem_cons.mpr ⟨to14, List.forall_mem_cons.mpr ⟨to15, List.forall_mem_cons.mpr ⟨to16, List.forall_mem_cons.mpr ⟨to17, List.forall_mem_cons.mpr ⟨to18, List.forall_mem_cons.mpr ⟨to19, List.forall_mem_cons.mpr ⟨to20, List.forall_mem_cons.mpr ⟨to21, List.forall_mem_cons.mpr ⟨to22, List.forall_mem_cons.mpr ⟨to23, List.forall_mem_cons.mpr ⟨to24, List.forall_mem_cons.mpr ⟨to25, List.forall_mem_cons.mpr ⟨to26, List.forall_mem_cons.mpr ⟨to27, List.forall_mem_cons.mpr ⟨to28, List.forall_mem_cons.mpr ⟨to29, List.forall_mem_cons.mpr ⟨to30, List.forall_mem_cons.mpr ⟨to31, List.forall_mem_cons.mpr ⟨to32, List.forall_mem_cons.mpr ⟨to33, List.forall_mem_cons.mpr ⟨to34, List.forall_mem_cons.mpr ⟨to35, List.forall_mem_cons.mpr ⟨to36, List.forall_mem_cons.mpr ⟨to37, List.forall_mem_cons.mpr ⟨to38, List.forall_mem_cons.mpr ⟨to39, List.forall_mem_cons.mpr ⟨to40, List.forall_mem_cons.mpr ⟨to41, List.forall_mem_cons.mpr ⟨to42, List.forall_mem_cons.mpr ⟨to43, List.forall_mem_cons.mpr ⟨to44, List.forall_mem_cons.mpr ⟨to45, List.forall_mem_cons.mpr ⟨to46, List.forall_mem_cons.mpr ⟨to47, List.forall_mem_cons.mpr ⟨to48, List.forall_mem_cons.mpr ⟨to49, List.forall_mem_cons.mpr ⟨to50, List.forall_mem_cons.mpr ⟨to51, List.forall_mem_cons.mpr ⟨to52, List.forall_mem_cons.mpr ⟨to53, List.forall_mem_cons.mpr ⟨to54, List.forall_mem_cons.mpr ⟨to55, List.forall_mem_cons.mpr ⟨to56, List.forall_mem_cons.mpr ⟨to57, List.forall_mem_cons.mpr ⟨to58, List.forall_mem_cons.mpr ⟨to59, List.forall_mem_cons.mpr ⟨to60, List.forall_mem_cons.mpr ⟨to61, List.forall_mem_cons.mpr ⟨to62, List.forall_mem_cons.mpr ⟨to63, List.forall_mem_cons.mpr ⟨to64, List.forall_mem_cons.mpr ⟨to65, List.forall_mem_cons.mpr ⟨to66, List.forall_mem_cons.mpr ⟨to67, List.forall_mem_cons.mpr ⟨to68, List.forall_mem_cons.mpr ⟨to69, List.forall_mem_cons.mpr ⟨to70, List.forall_mem_cons.mpr ⟨to71, List.forall_mem_cons.mpr ⟨to72, List.forall_mem_cons.mpr ⟨to73, List.forall_mem_cons.mpr ⟨to74, List.forall_mem_cons.mpr ⟨to75, List.forall_mem_cons.mpr ⟨to76, List.forall_mem_cons.mpr ⟨to77, List.forall_mem_cons.mpr ⟨to78, List.forall_mem_cons.mpr ⟨to79, List.forall_mem_cons.mpr ⟨to80, List.forall_mem_cons.mpr ⟨to81, List.forall_mem_cons.mpr ⟨to82, List.forall_mem_cons.mpr ⟨to83, List.forall_mem_cons.mpr ⟨to84, List.forall_mem_cons.mpr ⟨to85, List.forall_mem_cons.mpr ⟨to86, List.forall_mem_cons.mpr ⟨to87, List.forall_mem_cons.mpr ⟨to88, List.forall_mem_cons.mpr ⟨to89, List.forall_mem_cons.mpr ⟨to90, List.forall_mem_cons.mpr ⟨to91, List.forall_mem_cons.mpr ⟨to92, List.forall_mem_cons.mpr ⟨to93, List.forall_mem_cons.mpr ⟨to94, List.forall_mem_cons.mpr ⟨to95, List.forall_mem_cons.mpr ⟨to96, List.forall_mem_cons.mpr ⟨to97, List.forall_mem_cons.mpr ⟨to98, List.forall_mem_cons.mpr ⟨to99, List.forall_mem_cons.mpr ⟨to100, List.forall_mem_cons.mpr ⟨to101, List.forall_mem_cons.mpr ⟨to102, List.forall_mem_cons.mpr ⟨to103, List.forall_mem_cons.mpr ⟨to104, List.forall_mem_cons.mpr ⟨to105, List.forall_mem_cons.mpr ⟨to106, List.forall_mem_cons.mpr ⟨to107, List.forall_mem_cons.mpr ⟨to108, List.forall_mem_cons.mpr ⟨to109, List.forall_mem_cons.mpr ⟨to110, List.forall_mem_cons.mpr ⟨to111, List.forall_mem_cons.mpr ⟨to112, List.forall_mem_cons.mpr ⟨to113, List.forall_mem_cons.mpr ⟨to114, List.forall_mem_cons.mpr ⟨to115, List.forall_mem_cons.mpr ⟨to116, List.forall_mem_cons.mpr ⟨to117, List.forall_mem_cons.mpr ⟨to118, List.forall_mem_cons.mpr ⟨to119, List.forall_mem_cons.mpr ⟨to120, List.forall_mem_cons.mpr ⟨to121, List.forall_mem_cons.mpr ⟨to122, List.forall_mem_cons.mpr ⟨to123, List.forall_mem_cons.mpr ⟨to124, List.forall_mem_cons.mpr ⟨to125, List.forall_mem_cons.mpr ⟨to126, List.forall_mem_cons.mpr ⟨to127, List.forall_mem_cons.mpr ⟨to128, List.forall_mem_cons.mpr ⟨to129, List.forall_mem_cons.mpr ⟨to130, List.forall_mem_cons.mpr ⟨to131, List.forall_mem_cons.mpr ⟨to132, List.forall_mem_cons.mpr ⟨to133, List.forall_mem_cons.mpr ⟨to134, List.forall_mem_cons.mpr ⟨to135, List.forall_mem_cons.mpr ⟨to136, List.forall_mem_cons.mpr ⟨to137, List.forall_mem_cons.mpr ⟨to138, List.forall_mem_cons.mpr ⟨to139, List.forall_mem_cons.mpr ⟨to140, List.forall_mem_cons.mpr ⟨to141, List.forall_mem_cons.mpr ⟨to142, List.forall_mem_cons.mpr ⟨to143, List.forall_mem_cons.mpr ⟨to144, List.forall_mem_cons.mpr ⟨to145, List.forall_mem_cons.mpr ⟨to146, List.forall_mem_cons.mpr ⟨to147, List.forall_mem_cons.mpr ⟨to148, List.forall_mem_cons.mpr ⟨to149, List.forall_mem_cons.mpr ⟨to150, List.forall_mem_cons.mpr ⟨to151, List.forall_mem_cons.mpr ⟨to152, List.forall_mem_cons.mpr ⟨to153, List.forall_mem_cons.mpr ⟨to154, List.forall_mem_cons.mpr ⟨to155, List.forall_mem_cons.mpr ⟨to156, List.forall_mem_cons.mpr ⟨to157, List.forall_mem_cons.mpr ⟨to158, List.forall_mem_cons.mpr ⟨to159, List.forall_mem_cons.mpr ⟨to160, List.forall_mem_cons.mpr ⟨to161, List.forall_mem_cons.mpr ⟨to162, List.forall_mem_cons.mpr ⟨to163, List.forall_mem_cons.mpr ⟨to164, List.forall_mem_cons.mpr ⟨to165, List.forall_mem_cons.mpr ⟨to166, List.forall_mem_cons.mpr ⟨to167, List.forall_mem_cons.mpr ⟨to168, List.forall_mem_cons.mpr ⟨to169, List.forall_mem_cons.mpr ⟨to170, List.forall_mem_cons.mpr ⟨to171, List.forall_mem_cons.mpr ⟨to172, List.forall_mem_cons.mpr ⟨to173, List.forall_mem_cons.mpr ⟨to174, List.forall_mem_cons.mpr ⟨to175, List.forall_mem_cons.mpr ⟨to176, List.forall_mem_cons.mpr ⟨to177, List.forall_mem_cons.mpr ⟨to178, List.forall_mem_cons.mpr ⟨to179, List.forall_mem_cons.mpr ⟨to180, List.forall_mem_cons.mpr ⟨to181, List.forall_mem_cons.mpr ⟨to182, List.forall_mem_cons.mpr ⟨to183, List.forall_mem_cons.mpr ⟨to184, List.forall_mem_cons.mpr ⟨to185, List.forall_mem_cons.mpr ⟨to186, List.forall_mem_cons.mpr ⟨to187, List.forall_mem_cons.mpr ⟨to188, List.forall_mem_cons.mpr ⟨to189, List.forall_mem_cons.mpr ⟨to190, List.forall_mem_cons.mpr ⟨to191, List.forall_mem_cons.mpr ⟨to192, List.forall_mem_cons.mpr ⟨to193, List.forall_mem_cons.mpr ⟨to194, List.forall_mem_cons.mpr ⟨to195, List.forall_mem_cons.mpr ⟨to196, List.forall_mem_cons.mpr ⟨to197, List.forall_mem_cons.mpr ⟨to198, List.forall_mem_cons.mpr ⟨to199, List.forall_mem_cons.mpr ⟨to200, List.forall_mem_cons.mpr ⟨to201, List.forall_mem_cons.mpr ⟨to202, List.forall_mem_cons.mpr ⟨to203, List.forall_mem_cons.mpr ⟨to204, List.forall_mem_cons.mpr ⟨to205, List.forall_mem_cons.mpr ⟨to206, List.forall_mem_cons.mpr ⟨to207, List.forall_mem_cons.mpr ⟨to208, List.forall_mem_cons.mpr ⟨to209, List.forall_mem_cons.mpr ⟨to210, List.forall_mem_cons.mpr ⟨to211, List.forall_mem_cons.mpr ⟨to212, List.forall_mem_cons.mpr ⟨to213, List.forall_mem_cons.mpr ⟨to214, List.forall_mem_cons.mpr ⟨to215, List.forall_mem_cons.mpr ⟨to216, List.forall_mem_cons.mpr ⟨to217, List.forall_mem_cons.mpr ⟨to218, List.forall_mem_cons.mpr ⟨to219, List.forall_mem_cons.mpr ⟨to220, List.forall_mem_cons.mpr ⟨to221, List.forall_mem_cons.mpr ⟨to222, List.forall_mem_cons.mpr ⟨to223, List.forall_mem_cons.mpr ⟨to224, List.forall_mem_cons.mpr ⟨to225, List.forall_mem_cons.mpr ⟨to226, fun _ h => absurd h List.not_mem_nil⟩⟩⟩⟩⟩⟩⟩⟩⟩⟩⟩⟩⟩⟩⟩⟩⟩⟩⟩⟩⟩⟩⟩⟩⟩⟩⟩⟩⟩⟩⟩⟩⟩⟩⟩⟩⟩⟩⟩⟩⟩⟩⟩⟩⟩⟩⟩⟩⟩⟩⟩⟩⟩⟩⟩⟩⟩⟩⟩⟩⟩⟩⟩⟩⟩⟩⟩⟩⟩⟩⟩⟩⟩⟩⟩⟩⟩⟩⟩⟩⟩⟩⟩⟩⟩⟩⟩⟩⟩⟩⟩⟩⟩⟩⟩⟩⟩⟩⟩⟩⟩⟩⟩⟩⟩⟩⟩⟩⟩⟩⟩⟩⟩⟩⟩⟩⟩⟩⟩⟩⟩⟩⟩⟩⟩⟩⟩⟩⟩⟩⟩⟩⟩⟩⟩⟩⟩⟩⟩⟩⟩⟩⟩⟩⟩⟩⟩⟩⟩⟩⟩⟩⟩⟩⟩⟩⟩⟩⟩⟩⟩⟩⟩⟩⟩⟩⟩⟩⟩⟩⟩⟩⟩⟩⟩⟩⟩⟩⟩⟩⟩⟩⟩⟩⟩⟩⟩⟩⟩⟩⟩⟩⟩⟩⟩⟩⟩⟩⟩⟩⟩⟩⟩⟩⟩⟩⟩⟩⟩⟩⟩⟩⟩⟩⟩⟩⟩⟩⟩⟩⟩⟩⟩⟩⟩⟩⟩
