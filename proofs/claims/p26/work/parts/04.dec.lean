/-! a quick check of decoded instructions, and the tables of all methods -/
theorem dk_u1 {c : ByteArray} {p : Nat} {b : UInt8} (h : c.data.toList[p]? = some b) : (Reader.u1 : Decoder Nat) c p = .ok (b.toNat, p + 1) := by
  have h1 : p < c.data.size := by
    rw [← Array.length_toList]; exact (List.getElem?_eq_some_iff.mp h).1
  have h2 : c.data[p] = b := by
    have := (List.getElem?_eq_some_iff.mp h).2
    rw [← this]; simp
  have h3 : p < c.size := h1
  have h4 : c[p] = b := h2
  have h5 : (Reader.u1 : Decoder Nat) c p = (dite (p < c.size) (fun h => ((do set (p+1); Pure.pure c[p].toNat) : Decoder Nat)) (fun _ => throw (HasTruncated.truncated p))) c p := rfl
  rw [h5, dif_pos h3, h4]; rfl
theorem dk_u2 {c : ByteArray} {p : Nat} {b0 b1 : UInt8} (h0 : c.data.toList[p]? = some b0) (h1 : c.data.toList[p + 1]? = some b1) : (Reader.u2 : Decoder Nat) c p = .ok (b0.toNat * 256 + b1.toNat, p + 2) := by
  show Except.bind ((Reader.u1 : Decoder Nat) c p) _ = _
  rw [dk_u1 h0]
  show Except.bind ((Reader.u1 : Decoder Nat) c (p + 1)) _ = _
  rw [dk_u1 h1]
  rfl
theorem dk_s1 {c : ByteArray} {p : Nat} {b : UInt8} (h : c.data.toList[p]? = some b) : (Reader.s1 : Decoder Int) c p = .ok (Reader.signed 8 b.toNat, p + 1) := by
  show Except.bind ((Reader.u1 : Decoder Nat) c p) _ = _
  rw [dk_u1 h]
  rfl
theorem dk_s2 {c : ByteArray} {p : Nat} {b0 b1 : UInt8} (h0 : c.data.toList[p]? = some b0) (h1 : c.data.toList[p + 1]? = some b1) : (Reader.s2 : Decoder Int) c p = .ok (Reader.signed 16 (b0.toNat * 256 + b1.toNat), p + 2) := by
  show Except.bind ((Reader.u2 : Decoder Nat) c p) _ = _
  rw [dk_u2 h0 h1]
  rfl
theorem dk_dec {c : ByteArray} {p n : Nat} {i : Instr} (h : (Decoder.instr p) c p = .ok (i, p + n)) : decode c p = .ok (i, n) := by
  show (Except.bind ((Decoder.instr p) c p) (fun q => Except.ok (q.1, q.2 - p)) : Except DecodeError (Instr × Nat)) = _
  rw [h]
  show (Except.ok (i, p + n - p) : Except DecodeError (Instr × Nat)) = _
  rw [Nat.add_sub_cancel_left]
theorem dk_aaload {c : ByteArray} {p : Nat} {b0 : UInt8} (h0 : c.data.toList[p]? = some b0) (e : b0.toNat = 50) : (Decoder.instr p) c p = .ok (.aaload, p + 1) := by
  have u0 := dk_u1 h0
  rw [e] at u0
  unfold Decoder.instr
  show Except.bind ((Reader.u1 : Decoder Nat) c p) _ = _
  rw [u0]
  rfl
theorem dk_aastore {c : ByteArray} {p : Nat} {b0 : UInt8} (h0 : c.data.toList[p]? = some b0) (e : b0.toNat = 83) : (Decoder.instr p) c p = .ok (.aastore, p + 1) := by
  have u0 := dk_u1 h0
  rw [e] at u0
  unfold Decoder.instr
  show Except.bind ((Reader.u1 : Decoder Nat) c p) _ = _
  rw [u0]
  rfl
theorem dk_aconst_null {c : ByteArray} {p : Nat} {b0 : UInt8} (h0 : c.data.toList[p]? = some b0) (e : b0.toNat = 1) : (Decoder.instr p) c p = .ok (.aconst_null, p + 1) := by
  have u0 := dk_u1 h0
  rw [e] at u0
  unfold Decoder.instr
  show Except.bind ((Reader.u1 : Decoder Nat) c p) _ = _
  rw [u0]
  rfl
theorem dk_areturn {c : ByteArray} {p : Nat} {b0 : UInt8} (h0 : c.data.toList[p]? = some b0) (e : b0.toNat = 176) : (Decoder.instr p) c p = .ok (.areturn, p + 1) := by
  have u0 := dk_u1 h0
  rw [e] at u0
  unfold Decoder.instr
  show Except.bind ((Reader.u1 : Decoder Nat) c p) _ = _
  rw [u0]
  rfl
theorem dk_arraylength {c : ByteArray} {p : Nat} {b0 : UInt8} (h0 : c.data.toList[p]? = some b0) (e : b0.toNat = 190) : (Decoder.instr p) c p = .ok (.arraylength, p + 1) := by
  have u0 := dk_u1 h0
  rw [e] at u0
  unfold Decoder.instr
  show Except.bind ((Reader.u1 : Decoder Nat) c p) _ = _
  rw [u0]
  rfl
theorem dk_athrow {c : ByteArray} {p : Nat} {b0 : UInt8} (h0 : c.data.toList[p]? = some b0) (e : b0.toNat = 191) : (Decoder.instr p) c p = .ok (.athrow, p + 1) := by
  have u0 := dk_u1 h0
  rw [e] at u0
  unfold Decoder.instr
  show Except.bind ((Reader.u1 : Decoder Nat) c p) _ = _
  rw [u0]
  rfl
theorem dk_baload {c : ByteArray} {p : Nat} {b0 : UInt8} (h0 : c.data.toList[p]? = some b0) (e : b0.toNat = 51) : (Decoder.instr p) c p = .ok (.baload, p + 1) := by
  have u0 := dk_u1 h0
  rw [e] at u0
  unfold Decoder.instr
  show Except.bind ((Reader.u1 : Decoder Nat) c p) _ = _
  rw [u0]
  rfl
theorem dk_bastore {c : ByteArray} {p : Nat} {b0 : UInt8} (h0 : c.data.toList[p]? = some b0) (e : b0.toNat = 84) : (Decoder.instr p) c p = .ok (.bastore, p + 1) := by
  have u0 := dk_u1 h0
  rw [e] at u0
  unfold Decoder.instr
  show Except.bind ((Reader.u1 : Decoder Nat) c p) _ = _
  rw [u0]
  rfl
theorem dk_d2i {c : ByteArray} {p : Nat} {b0 : UInt8} (h0 : c.data.toList[p]? = some b0) (e : b0.toNat = 142) : (Decoder.instr p) c p = .ok (.d2i, p + 1) := by
  have u0 := dk_u1 h0
  rw [e] at u0
  unfold Decoder.instr
  show Except.bind ((Reader.u1 : Decoder Nat) c p) _ = _
  rw [u0]
  rfl
theorem dk_dadd {c : ByteArray} {p : Nat} {b0 : UInt8} (h0 : c.data.toList[p]? = some b0) (e : b0.toNat = 99) : (Decoder.instr p) c p = .ok (.dadd, p + 1) := by
  have u0 := dk_u1 h0
  rw [e] at u0
  unfold Decoder.instr
  show Except.bind ((Reader.u1 : Decoder Nat) c p) _ = _
  rw [u0]
  rfl
theorem dk_dastore {c : ByteArray} {p : Nat} {b0 : UInt8} (h0 : c.data.toList[p]? = some b0) (e : b0.toNat = 82) : (Decoder.instr p) c p = .ok (.dastore, p + 1) := by
  have u0 := dk_u1 h0
  rw [e] at u0
  unfold Decoder.instr
  show Except.bind ((Reader.u1 : Decoder Nat) c p) _ = _
  rw [u0]
  rfl
theorem dk_ddiv {c : ByteArray} {p : Nat} {b0 : UInt8} (h0 : c.data.toList[p]? = some b0) (e : b0.toNat = 111) : (Decoder.instr p) c p = .ok (.ddiv, p + 1) := by
  have u0 := dk_u1 h0
  rw [e] at u0
  unfold Decoder.instr
  show Except.bind ((Reader.u1 : Decoder Nat) c p) _ = _
  rw [u0]
  rfl
theorem dk_dmul {c : ByteArray} {p : Nat} {b0 : UInt8} (h0 : c.data.toList[p]? = some b0) (e : b0.toNat = 107) : (Decoder.instr p) c p = .ok (.dmul, p + 1) := by
  have u0 := dk_u1 h0
  rw [e] at u0
  unfold Decoder.instr
  show Except.bind ((Reader.u1 : Decoder Nat) c p) _ = _
  rw [u0]
  rfl
theorem dk_dreturn {c : ByteArray} {p : Nat} {b0 : UInt8} (h0 : c.data.toList[p]? = some b0) (e : b0.toNat = 175) : (Decoder.instr p) c p = .ok (.dreturn, p + 1) := by
  have u0 := dk_u1 h0
  rw [e] at u0
  unfold Decoder.instr
  show Except.bind ((Reader.u1 : Decoder Nat) c p) _ = _
  rw [u0]
  rfl
theorem dk_dsub {c : ByteArray} {p : Nat} {b0 : UInt8} (h0 : c.data.toList[p]? = some b0) (e : b0.toNat = 103) : (Decoder.instr p) c p = .ok (.dsub, p + 1) := by
  have u0 := dk_u1 h0
  rw [e] at u0
  unfold Decoder.instr
  show Except.bind ((Reader.u1 : Decoder Nat) c p) _ = _
  rw [u0]
  rfl
theorem dk_dup {c : ByteArray} {p : Nat} {b0 : UInt8} (h0 : c.data.toList[p]? = some b0) (e : b0.toNat = 89) : (Decoder.instr p) c p = .ok (.dup, p + 1) := by
  have u0 := dk_u1 h0
  rw [e] at u0
  unfold Decoder.instr
  show Except.bind ((Reader.u1 : Decoder Nat) c p) _ = _
  rw [u0]
  rfl
theorem dk_dup2 {c : ByteArray} {p : Nat} {b0 : UInt8} (h0 : c.data.toList[p]? = some b0) (e : b0.toNat = 92) : (Decoder.instr p) c p = .ok (.dup2, p + 1) := by
  have u0 := dk_u1 h0
  rw [e] at u0
  unfold Decoder.instr
  show Except.bind ((Reader.u1 : Decoder Nat) c p) _ = _
  rw [u0]
  rfl
theorem dk_dup_x1 {c : ByteArray} {p : Nat} {b0 : UInt8} (h0 : c.data.toList[p]? = some b0) (e : b0.toNat = 90) : (Decoder.instr p) c p = .ok (.dup_x1, p + 1) := by
  have u0 := dk_u1 h0
  rw [e] at u0
  unfold Decoder.instr
  show Except.bind ((Reader.u1 : Decoder Nat) c p) _ = _
  rw [u0]
  rfl
theorem dk_i2b {c : ByteArray} {p : Nat} {b0 : UInt8} (h0 : c.data.toList[p]? = some b0) (e : b0.toNat = 145) : (Decoder.instr p) c p = .ok (.i2b, p + 1) := by
  have u0 := dk_u1 h0
  rw [e] at u0
  unfold Decoder.instr
  show Except.bind ((Reader.u1 : Decoder Nat) c p) _ = _
  rw [u0]
  rfl
theorem dk_i2c {c : ByteArray} {p : Nat} {b0 : UInt8} (h0 : c.data.toList[p]? = some b0) (e : b0.toNat = 146) : (Decoder.instr p) c p = .ok (.i2c, p + 1) := by
  have u0 := dk_u1 h0
  rw [e] at u0
  unfold Decoder.instr
  show Except.bind ((Reader.u1 : Decoder Nat) c p) _ = _
  rw [u0]
  rfl
theorem dk_i2d {c : ByteArray} {p : Nat} {b0 : UInt8} (h0 : c.data.toList[p]? = some b0) (e : b0.toNat = 135) : (Decoder.instr p) c p = .ok (.i2d, p + 1) := by
  have u0 := dk_u1 h0
  rw [e] at u0
  unfold Decoder.instr
  show Except.bind ((Reader.u1 : Decoder Nat) c p) _ = _
  rw [u0]
  rfl
theorem dk_i2l {c : ByteArray} {p : Nat} {b0 : UInt8} (h0 : c.data.toList[p]? = some b0) (e : b0.toNat = 133) : (Decoder.instr p) c p = .ok (.i2l, p + 1) := by
  have u0 := dk_u1 h0
  rw [e] at u0
  unfold Decoder.instr
  show Except.bind ((Reader.u1 : Decoder Nat) c p) _ = _
  rw [u0]
  rfl
theorem dk_iadd {c : ByteArray} {p : Nat} {b0 : UInt8} (h0 : c.data.toList[p]? = some b0) (e : b0.toNat = 96) : (Decoder.instr p) c p = .ok (.iadd, p + 1) := by
  have u0 := dk_u1 h0
  rw [e] at u0
  unfold Decoder.instr
  show Except.bind ((Reader.u1 : Decoder Nat) c p) _ = _
  rw [u0]
  rfl
theorem dk_iaload {c : ByteArray} {p : Nat} {b0 : UInt8} (h0 : c.data.toList[p]? = some b0) (e : b0.toNat = 46) : (Decoder.instr p) c p = .ok (.iaload, p + 1) := by
  have u0 := dk_u1 h0
  rw [e] at u0
  unfold Decoder.instr
  show Except.bind ((Reader.u1 : Decoder Nat) c p) _ = _
  rw [u0]
  rfl
theorem dk_iand {c : ByteArray} {p : Nat} {b0 : UInt8} (h0 : c.data.toList[p]? = some b0) (e : b0.toNat = 126) : (Decoder.instr p) c p = .ok (.iand, p + 1) := by
  have u0 := dk_u1 h0
  rw [e] at u0
  unfold Decoder.instr
  show Except.bind ((Reader.u1 : Decoder Nat) c p) _ = _
  rw [u0]
  rfl
theorem dk_iastore {c : ByteArray} {p : Nat} {b0 : UInt8} (h0 : c.data.toList[p]? = some b0) (e : b0.toNat = 79) : (Decoder.instr p) c p = .ok (.iastore, p + 1) := by
  have u0 := dk_u1 h0
  rw [e] at u0
  unfold Decoder.instr
  show Except.bind ((Reader.u1 : Decoder Nat) c p) _ = _
  rw [u0]
  rfl
theorem dk_idiv {c : ByteArray} {p : Nat} {b0 : UInt8} (h0 : c.data.toList[p]? = some b0) (e : b0.toNat = 108) : (Decoder.instr p) c p = .ok (.idiv, p + 1) := by
  have u0 := dk_u1 h0
  rw [e] at u0
  unfold Decoder.instr
  show Except.bind ((Reader.u1 : Decoder Nat) c p) _ = _
  rw [u0]
  rfl
theorem dk_imul {c : ByteArray} {p : Nat} {b0 : UInt8} (h0 : c.data.toList[p]? = some b0) (e : b0.toNat = 104) : (Decoder.instr p) c p = .ok (.imul, p + 1) := by
  have u0 := dk_u1 h0
  rw [e] at u0
  unfold Decoder.instr
  show Except.bind ((Reader.u1 : Decoder Nat) c p) _ = _
  rw [u0]
  rfl
theorem dk_ineg {c : ByteArray} {p : Nat} {b0 : UInt8} (h0 : c.data.toList[p]? = some b0) (e : b0.toNat = 116) : (Decoder.instr p) c p = .ok (.ineg, p + 1) := by
  have u0 := dk_u1 h0
  rw [e] at u0
  unfold Decoder.instr
  show Except.bind ((Reader.u1 : Decoder Nat) c p) _ = _
  rw [u0]
  rfl
theorem dk_ior {c : ByteArray} {p : Nat} {b0 : UInt8} (h0 : c.data.toList[p]? = some b0) (e : b0.toNat = 128) : (Decoder.instr p) c p = .ok (.ior, p + 1) := by
  have u0 := dk_u1 h0
  rw [e] at u0
  unfold Decoder.instr
  show Except.bind ((Reader.u1 : Decoder Nat) c p) _ = _
  rw [u0]
  rfl
theorem dk_irem {c : ByteArray} {p : Nat} {b0 : UInt8} (h0 : c.data.toList[p]? = some b0) (e : b0.toNat = 112) : (Decoder.instr p) c p = .ok (.irem, p + 1) := by
  have u0 := dk_u1 h0
  rw [e] at u0
  unfold Decoder.instr
  show Except.bind ((Reader.u1 : Decoder Nat) c p) _ = _
  rw [u0]
  rfl
theorem dk_ireturn {c : ByteArray} {p : Nat} {b0 : UInt8} (h0 : c.data.toList[p]? = some b0) (e : b0.toNat = 172) : (Decoder.instr p) c p = .ok (.ireturn, p + 1) := by
  have u0 := dk_u1 h0
  rw [e] at u0
  unfold Decoder.instr
  show Except.bind ((Reader.u1 : Decoder Nat) c p) _ = _
  rw [u0]
  rfl
theorem dk_ishl {c : ByteArray} {p : Nat} {b0 : UInt8} (h0 : c.data.toList[p]? = some b0) (e : b0.toNat = 120) : (Decoder.instr p) c p = .ok (.ishl, p + 1) := by
  have u0 := dk_u1 h0
  rw [e] at u0
  unfold Decoder.instr
  show Except.bind ((Reader.u1 : Decoder Nat) c p) _ = _
  rw [u0]
  rfl
theorem dk_ishr {c : ByteArray} {p : Nat} {b0 : UInt8} (h0 : c.data.toList[p]? = some b0) (e : b0.toNat = 122) : (Decoder.instr p) c p = .ok (.ishr, p + 1) := by
  have u0 := dk_u1 h0
  rw [e] at u0
  unfold Decoder.instr
  show Except.bind ((Reader.u1 : Decoder Nat) c p) _ = _
  rw [u0]
  rfl
theorem dk_isub {c : ByteArray} {p : Nat} {b0 : UInt8} (h0 : c.data.toList[p]? = some b0) (e : b0.toNat = 100) : (Decoder.instr p) c p = .ok (.isub, p + 1) := by
  have u0 := dk_u1 h0
  rw [e] at u0
  unfold Decoder.instr
  show Except.bind ((Reader.u1 : Decoder Nat) c p) _ = _
  rw [u0]
  rfl
theorem dk_iushr {c : ByteArray} {p : Nat} {b0 : UInt8} (h0 : c.data.toList[p]? = some b0) (e : b0.toNat = 124) : (Decoder.instr p) c p = .ok (.iushr, p + 1) := by
  have u0 := dk_u1 h0
  rw [e] at u0
  unfold Decoder.instr
  show Except.bind ((Reader.u1 : Decoder Nat) c p) _ = _
  rw [u0]
  rfl
theorem dk_ixor {c : ByteArray} {p : Nat} {b0 : UInt8} (h0 : c.data.toList[p]? = some b0) (e : b0.toNat = 130) : (Decoder.instr p) c p = .ok (.ixor, p + 1) := by
  have u0 := dk_u1 h0
  rw [e] at u0
  unfold Decoder.instr
  show Except.bind ((Reader.u1 : Decoder Nat) c p) _ = _
  rw [u0]
  rfl
theorem dk_ladd {c : ByteArray} {p : Nat} {b0 : UInt8} (h0 : c.data.toList[p]? = some b0) (e : b0.toNat = 97) : (Decoder.instr p) c p = .ok (.ladd, p + 1) := by
  have u0 := dk_u1 h0
  rw [e] at u0
  unfold Decoder.instr
  show Except.bind ((Reader.u1 : Decoder Nat) c p) _ = _
  rw [u0]
  rfl
theorem dk_laload {c : ByteArray} {p : Nat} {b0 : UInt8} (h0 : c.data.toList[p]? = some b0) (e : b0.toNat = 47) : (Decoder.instr p) c p = .ok (.laload, p + 1) := by
  have u0 := dk_u1 h0
  rw [e] at u0
  unfold Decoder.instr
  show Except.bind ((Reader.u1 : Decoder Nat) c p) _ = _
  rw [u0]
  rfl
theorem dk_lastore {c : ByteArray} {p : Nat} {b0 : UInt8} (h0 : c.data.toList[p]? = some b0) (e : b0.toNat = 80) : (Decoder.instr p) c p = .ok (.lastore, p + 1) := by
  have u0 := dk_u1 h0
  rw [e] at u0
  unfold Decoder.instr
  show Except.bind ((Reader.u1 : Decoder Nat) c p) _ = _
  rw [u0]
  rfl
theorem dk_lcmp {c : ByteArray} {p : Nat} {b0 : UInt8} (h0 : c.data.toList[p]? = some b0) (e : b0.toNat = 148) : (Decoder.instr p) c p = .ok (.lcmp, p + 1) := by
  have u0 := dk_u1 h0
  rw [e] at u0
  unfold Decoder.instr
  show Except.bind ((Reader.u1 : Decoder Nat) c p) _ = _
  rw [u0]
  rfl
theorem dk_lreturn {c : ByteArray} {p : Nat} {b0 : UInt8} (h0 : c.data.toList[p]? = some b0) (e : b0.toNat = 173) : (Decoder.instr p) c p = .ok (.lreturn, p + 1) := by
  have u0 := dk_u1 h0
  rw [e] at u0
  unfold Decoder.instr
  show Except.bind ((Reader.u1 : Decoder Nat) c p) _ = _
  rw [u0]
  rfl
theorem dk_pop {c : ByteArray} {p : Nat} {b0 : UInt8} (h0 : c.data.toList[p]? = some b0) (e : b0.toNat = 87) : (Decoder.instr p) c p = .ok (.pop, p + 1) := by
  have u0 := dk_u1 h0
  rw [e] at u0
  unfold Decoder.instr
  show Except.bind ((Reader.u1 : Decoder Nat) c p) _ = _
  rw [u0]
  rfl
theorem dk_pop2 {c : ByteArray} {p : Nat} {b0 : UInt8} (h0 : c.data.toList[p]? = some b0) (e : b0.toNat = 88) : (Decoder.instr p) c p = .ok (.pop2, p + 1) := by
  have u0 := dk_u1 h0
  rw [e] at u0
  unfold Decoder.instr
  show Except.bind ((Reader.u1 : Decoder Nat) c p) _ = _
  rw [u0]
  rfl
theorem dk_return_ {c : ByteArray} {p : Nat} {b0 : UInt8} (h0 : c.data.toList[p]? = some b0) (e : b0.toNat = 177) : (Decoder.instr p) c p = .ok (.return_, p + 1) := by
  have u0 := dk_u1 h0
  rw [e] at u0
  unfold Decoder.instr
  show Except.bind ((Reader.u1 : Decoder Nat) c p) _ = _
  rw [u0]
  rfl
theorem dk_aload_n0 {c : ByteArray} {p : Nat} {b0 : UInt8} (h0 : c.data.toList[p]? = some b0) (e : b0.toNat = 42) : (Decoder.instr p) c p = .ok (.aload_n 0, p + 1) := by
  have u0 := dk_u1 h0
  rw [e] at u0
  unfold Decoder.instr
  show Except.bind ((Reader.u1 : Decoder Nat) c p) _ = _
  rw [u0]
  rfl
theorem dk_aload_n1 {c : ByteArray} {p : Nat} {b0 : UInt8} (h0 : c.data.toList[p]? = some b0) (e : b0.toNat = 43) : (Decoder.instr p) c p = .ok (.aload_n 1, p + 1) := by
  have u0 := dk_u1 h0
  rw [e] at u0
  unfold Decoder.instr
  show Except.bind ((Reader.u1 : Decoder Nat) c p) _ = _
  rw [u0]
  rfl
theorem dk_aload_n2 {c : ByteArray} {p : Nat} {b0 : UInt8} (h0 : c.data.toList[p]? = some b0) (e : b0.toNat = 44) : (Decoder.instr p) c p = .ok (.aload_n 2, p + 1) := by
  have u0 := dk_u1 h0
  rw [e] at u0
  unfold Decoder.instr
  show Except.bind ((Reader.u1 : Decoder Nat) c p) _ = _
  rw [u0]
  rfl
theorem dk_aload_n3 {c : ByteArray} {p : Nat} {b0 : UInt8} (h0 : c.data.toList[p]? = some b0) (e : b0.toNat = 45) : (Decoder.instr p) c p = .ok (.aload_n 3, p + 1) := by
  have u0 := dk_u1 h0
  rw [e] at u0
  unfold Decoder.instr
  show Except.bind ((Reader.u1 : Decoder Nat) c p) _ = _
  rw [u0]
  rfl
theorem dk_astore_n0 {c : ByteArray} {p : Nat} {b0 : UInt8} (h0 : c.data.toList[p]? = some b0) (e : b0.toNat = 75) : (Decoder.instr p) c p = .ok (.astore_n 0, p + 1) := by
  have u0 := dk_u1 h0
  rw [e] at u0
  unfold Decoder.instr
  show Except.bind ((Reader.u1 : Decoder Nat) c p) _ = _
  rw [u0]
  rfl
theorem dk_astore_n1 {c : ByteArray} {p : Nat} {b0 : UInt8} (h0 : c.data.toList[p]? = some b0) (e : b0.toNat = 76) : (Decoder.instr p) c p = .ok (.astore_n 1, p + 1) := by
  have u0 := dk_u1 h0
  rw [e] at u0
  unfold Decoder.instr
  show Except.bind ((Reader.u1 : Decoder Nat) c p) _ = _
  rw [u0]
  rfl
theorem dk_astore_n2 {c : ByteArray} {p : Nat} {b0 : UInt8} (h0 : c.data.toList[p]? = some b0) (e : b0.toNat = 77) : (Decoder.instr p) c p = .ok (.astore_n 2, p + 1) := by
  have u0 := dk_u1 h0
  rw [e] at u0
  unfold Decoder.instr
  show Except.bind ((Reader.u1 : Decoder Nat) c p) _ = _
  rw [u0]
  rfl
theorem dk_astore_n3 {c : ByteArray} {p : Nat} {b0 : UInt8} (h0 : c.data.toList[p]? = some b0) (e : b0.toNat = 78) : (Decoder.instr p) c p = .ok (.astore_n 3, p + 1) := by
  have u0 := dk_u1 h0
  rw [e] at u0
  unfold Decoder.instr
  show Except.bind ((Reader.u1 : Decoder Nat) c p) _ = _
  rw [u0]
  rfl
theorem dk_dconst0 {c : ByteArray} {p : Nat} {b0 : UInt8} (h0 : c.data.toList[p]? = some b0) (e : b0.toNat = 14) : (Decoder.instr p) c p = .ok (.dconst 0, p + 1) := by
  have u0 := dk_u1 h0
  rw [e] at u0
  unfold Decoder.instr
  show Except.bind ((Reader.u1 : Decoder Nat) c p) _ = _
  rw [u0]
  rfl
theorem dk_dconst1 {c : ByteArray} {p : Nat} {b0 : UInt8} (h0 : c.data.toList[p]? = some b0) (e : b0.toNat = 15) : (Decoder.instr p) c p = .ok (.dconst 1, p + 1) := by
  have u0 := dk_u1 h0
  rw [e] at u0
  unfold Decoder.instr
  show Except.bind ((Reader.u1 : Decoder Nat) c p) _ = _
  rw [u0]
  rfl
theorem dk_dload_n0 {c : ByteArray} {p : Nat} {b0 : UInt8} (h0 : c.data.toList[p]? = some b0) (e : b0.toNat = 38) : (Decoder.instr p) c p = .ok (.dload_n 0, p + 1) := by
  have u0 := dk_u1 h0
  rw [e] at u0
  unfold Decoder.instr
  show Except.bind ((Reader.u1 : Decoder Nat) c p) _ = _
  rw [u0]
  rfl
theorem dk_dload_n1 {c : ByteArray} {p : Nat} {b0 : UInt8} (h0 : c.data.toList[p]? = some b0) (e : b0.toNat = 39) : (Decoder.instr p) c p = .ok (.dload_n 1, p + 1) := by
  have u0 := dk_u1 h0
  rw [e] at u0
  unfold Decoder.instr
  show Except.bind ((Reader.u1 : Decoder Nat) c p) _ = _
  rw [u0]
  rfl
theorem dk_dload_n2 {c : ByteArray} {p : Nat} {b0 : UInt8} (h0 : c.data.toList[p]? = some b0) (e : b0.toNat = 40) : (Decoder.instr p) c p = .ok (.dload_n 2, p + 1) := by
  have u0 := dk_u1 h0
  rw [e] at u0
  unfold Decoder.instr
  show Except.bind ((Reader.u1 : Decoder Nat) c p) _ = _
  rw [u0]
  rfl
theorem dk_dload_n3 {c : ByteArray} {p : Nat} {b0 : UInt8} (h0 : c.data.toList[p]? = some b0) (e : b0.toNat = 41) : (Decoder.instr p) c p = .ok (.dload_n 3, p + 1) := by
  have u0 := dk_u1 h0
  rw [e] at u0
  unfold Decoder.instr
  show Except.bind ((Reader.u1 : Decoder Nat) c p) _ = _
  rw [u0]
  rfl
theorem dk_dstore_n0 {c : ByteArray} {p : Nat} {b0 : UInt8} (h0 : c.data.toList[p]? = some b0) (e : b0.toNat = 71) : (Decoder.instr p) c p = .ok (.dstore_n 0, p + 1) := by
  have u0 := dk_u1 h0
  rw [e] at u0
  unfold Decoder.instr
  show Except.bind ((Reader.u1 : Decoder Nat) c p) _ = _
  rw [u0]
  rfl
theorem dk_dstore_n1 {c : ByteArray} {p : Nat} {b0 : UInt8} (h0 : c.data.toList[p]? = some b0) (e : b0.toNat = 72) : (Decoder.instr p) c p = .ok (.dstore_n 1, p + 1) := by
  have u0 := dk_u1 h0
  rw [e] at u0
  unfold Decoder.instr
  show Except.bind ((Reader.u1 : Decoder Nat) c p) _ = _
  rw [u0]
  rfl
theorem dk_dstore_n2 {c : ByteArray} {p : Nat} {b0 : UInt8} (h0 : c.data.toList[p]? = some b0) (e : b0.toNat = 73) : (Decoder.instr p) c p = .ok (.dstore_n 2, p + 1) := by
  have u0 := dk_u1 h0
  rw [e] at u0
  unfold Decoder.instr
  show Except.bind ((Reader.u1 : Decoder Nat) c p) _ = _
  rw [u0]
  rfl
theorem dk_dstore_n3 {c : ByteArray} {p : Nat} {b0 : UInt8} (h0 : c.data.toList[p]? = some b0) (e : b0.toNat = 74) : (Decoder.instr p) c p = .ok (.dstore_n 3, p + 1) := by
  have u0 := dk_u1 h0
  rw [e] at u0
  unfold Decoder.instr
  show Except.bind ((Reader.u1 : Decoder Nat) c p) _ = _
  rw [u0]
  rfl
theorem dk_iload_n0 {c : ByteArray} {p : Nat} {b0 : UInt8} (h0 : c.data.toList[p]? = some b0) (e : b0.toNat = 26) : (Decoder.instr p) c p = .ok (.iload_n 0, p + 1) := by
  have u0 := dk_u1 h0
  rw [e] at u0
  unfold Decoder.instr
  show Except.bind ((Reader.u1 : Decoder Nat) c p) _ = _
  rw [u0]
  rfl
theorem dk_iload_n1 {c : ByteArray} {p : Nat} {b0 : UInt8} (h0 : c.data.toList[p]? = some b0) (e : b0.toNat = 27) : (Decoder.instr p) c p = .ok (.iload_n 1, p + 1) := by
  have u0 := dk_u1 h0
  rw [e] at u0
  unfold Decoder.instr
  show Except.bind ((Reader.u1 : Decoder Nat) c p) _ = _
  rw [u0]
  rfl
theorem dk_iload_n2 {c : ByteArray} {p : Nat} {b0 : UInt8} (h0 : c.data.toList[p]? = some b0) (e : b0.toNat = 28) : (Decoder.instr p) c p = .ok (.iload_n 2, p + 1) := by
  have u0 := dk_u1 h0
  rw [e] at u0
  unfold Decoder.instr
  show Except.bind ((Reader.u1 : Decoder Nat) c p) _ = _
  rw [u0]
  rfl
theorem dk_iload_n3 {c : ByteArray} {p : Nat} {b0 : UInt8} (h0 : c.data.toList[p]? = some b0) (e : b0.toNat = 29) : (Decoder.instr p) c p = .ok (.iload_n 3, p + 1) := by
  have u0 := dk_u1 h0
  rw [e] at u0
  unfold Decoder.instr
  show Except.bind ((Reader.u1 : Decoder Nat) c p) _ = _
  rw [u0]
  rfl
theorem dk_istore_n0 {c : ByteArray} {p : Nat} {b0 : UInt8} (h0 : c.data.toList[p]? = some b0) (e : b0.toNat = 59) : (Decoder.instr p) c p = .ok (.istore_n 0, p + 1) := by
  have u0 := dk_u1 h0
  rw [e] at u0
  unfold Decoder.instr
  show Except.bind ((Reader.u1 : Decoder Nat) c p) _ = _
  rw [u0]
  rfl
theorem dk_istore_n1 {c : ByteArray} {p : Nat} {b0 : UInt8} (h0 : c.data.toList[p]? = some b0) (e : b0.toNat = 60) : (Decoder.instr p) c p = .ok (.istore_n 1, p + 1) := by
  have u0 := dk_u1 h0
  rw [e] at u0
  unfold Decoder.instr
  show Except.bind ((Reader.u1 : Decoder Nat) c p) _ = _
  rw [u0]
  rfl
theorem dk_istore_n2 {c : ByteArray} {p : Nat} {b0 : UInt8} (h0 : c.data.toList[p]? = some b0) (e : b0.toNat = 61) : (Decoder.instr p) c p = .ok (.istore_n 2, p + 1) := by
  have u0 := dk_u1 h0
  rw [e] at u0
  unfold Decoder.instr
  show Except.bind ((Reader.u1 : Decoder Nat) c p) _ = _
  rw [u0]
  rfl
theorem dk_istore_n3 {c : ByteArray} {p : Nat} {b0 : UInt8} (h0 : c.data.toList[p]? = some b0) (e : b0.toNat = 62) : (Decoder.instr p) c p = .ok (.istore_n 3, p + 1) := by
  have u0 := dk_u1 h0
  rw [e] at u0
  unfold Decoder.instr
  show Except.bind ((Reader.u1 : Decoder Nat) c p) _ = _
  rw [u0]
  rfl
theorem dk_lconst0 {c : ByteArray} {p : Nat} {b0 : UInt8} (h0 : c.data.toList[p]? = some b0) (e : b0.toNat = 9) : (Decoder.instr p) c p = .ok (.lconst 0, p + 1) := by
  have u0 := dk_u1 h0
  rw [e] at u0
  unfold Decoder.instr
  show Except.bind ((Reader.u1 : Decoder Nat) c p) _ = _
  rw [u0]
  rfl
theorem dk_lconst1 {c : ByteArray} {p : Nat} {b0 : UInt8} (h0 : c.data.toList[p]? = some b0) (e : b0.toNat = 10) : (Decoder.instr p) c p = .ok (.lconst 1, p + 1) := by
  have u0 := dk_u1 h0
  rw [e] at u0
  unfold Decoder.instr
  show Except.bind ((Reader.u1 : Decoder Nat) c p) _ = _
  rw [u0]
  rfl
theorem dk_lload_n0 {c : ByteArray} {p : Nat} {b0 : UInt8} (h0 : c.data.toList[p]? = some b0) (e : b0.toNat = 30) : (Decoder.instr p) c p = .ok (.lload_n 0, p + 1) := by
  have u0 := dk_u1 h0
  rw [e] at u0
  unfold Decoder.instr
  show Except.bind ((Reader.u1 : Decoder Nat) c p) _ = _
  rw [u0]
  rfl
theorem dk_lload_n1 {c : ByteArray} {p : Nat} {b0 : UInt8} (h0 : c.data.toList[p]? = some b0) (e : b0.toNat = 31) : (Decoder.instr p) c p = .ok (.lload_n 1, p + 1) := by
  have u0 := dk_u1 h0
  rw [e] at u0
  unfold Decoder.instr
  show Except.bind ((Reader.u1 : Decoder Nat) c p) _ = _
  rw [u0]
  rfl
theorem dk_lload_n2 {c : ByteArray} {p : Nat} {b0 : UInt8} (h0 : c.data.toList[p]? = some b0) (e : b0.toNat = 32) : (Decoder.instr p) c p = .ok (.lload_n 2, p + 1) := by
  have u0 := dk_u1 h0
  rw [e] at u0
  unfold Decoder.instr
  show Except.bind ((Reader.u1 : Decoder Nat) c p) _ = _
  rw [u0]
  rfl
theorem dk_lload_n3 {c : ByteArray} {p : Nat} {b0 : UInt8} (h0 : c.data.toList[p]? = some b0) (e : b0.toNat = 33) : (Decoder.instr p) c p = .ok (.lload_n 3, p + 1) := by
  have u0 := dk_u1 h0
  rw [e] at u0
  unfold Decoder.instr
  show Except.bind ((Reader.u1 : Decoder Nat) c p) _ = _
  rw [u0]
  rfl
theorem dk_aload {c : ByteArray} {p : Nat} {b0 b1 : UInt8} (h0 : c.data.toList[p]? = some b0) (h1 : c.data.toList[p + 1]? = some b1) (e : b0.toNat = 25) : (Decoder.instr p) c p = .ok (.aload b1.toNat, p + 2) := by
  have u0 := dk_u1 h0
  rw [e] at u0
  unfold Decoder.instr
  show Except.bind ((Reader.u1 : Decoder Nat) c p) _ = _
  rw [u0]
  show Except.bind ((Reader.u1 : Decoder Nat) c (p + 1)) _ = _
  rw [dk_u1 h1]
  rfl
theorem dk_astore {c : ByteArray} {p : Nat} {b0 b1 : UInt8} (h0 : c.data.toList[p]? = some b0) (h1 : c.data.toList[p + 1]? = some b1) (e : b0.toNat = 58) : (Decoder.instr p) c p = .ok (.astore b1.toNat, p + 2) := by
  have u0 := dk_u1 h0
  rw [e] at u0
  unfold Decoder.instr
  show Except.bind ((Reader.u1 : Decoder Nat) c p) _ = _
  rw [u0]
  show Except.bind ((Reader.u1 : Decoder Nat) c (p + 1)) _ = _
  rw [dk_u1 h1]
  rfl
theorem dk_dload {c : ByteArray} {p : Nat} {b0 b1 : UInt8} (h0 : c.data.toList[p]? = some b0) (h1 : c.data.toList[p + 1]? = some b1) (e : b0.toNat = 24) : (Decoder.instr p) c p = .ok (.dload b1.toNat, p + 2) := by
  have u0 := dk_u1 h0
  rw [e] at u0
  unfold Decoder.instr
  show Except.bind ((Reader.u1 : Decoder Nat) c p) _ = _
  rw [u0]
  show Except.bind ((Reader.u1 : Decoder Nat) c (p + 1)) _ = _
  rw [dk_u1 h1]
  rfl
theorem dk_dstore {c : ByteArray} {p : Nat} {b0 b1 : UInt8} (h0 : c.data.toList[p]? = some b0) (h1 : c.data.toList[p + 1]? = some b1) (e : b0.toNat = 57) : (Decoder.instr p) c p = .ok (.dstore b1.toNat, p + 2) := by
  have u0 := dk_u1 h0
  rw [e] at u0
  unfold Decoder.instr
  show Except.bind ((Reader.u1 : Decoder Nat) c p) _ = _
  rw [u0]
  show Except.bind ((Reader.u1 : Decoder Nat) c (p + 1)) _ = _
  rw [dk_u1 h1]
  rfl
theorem dk_iload {c : ByteArray} {p : Nat} {b0 b1 : UInt8} (h0 : c.data.toList[p]? = some b0) (h1 : c.data.toList[p + 1]? = some b1) (e : b0.toNat = 21) : (Decoder.instr p) c p = .ok (.iload b1.toNat, p + 2) := by
  have u0 := dk_u1 h0
  rw [e] at u0
  unfold Decoder.instr
  show Except.bind ((Reader.u1 : Decoder Nat) c p) _ = _
  rw [u0]
  show Except.bind ((Reader.u1 : Decoder Nat) c (p + 1)) _ = _
  rw [dk_u1 h1]
  rfl
theorem dk_istore {c : ByteArray} {p : Nat} {b0 b1 : UInt8} (h0 : c.data.toList[p]? = some b0) (h1 : c.data.toList[p + 1]? = some b1) (e : b0.toNat = 54) : (Decoder.instr p) c p = .ok (.istore b1.toNat, p + 2) := by
  have u0 := dk_u1 h0
  rw [e] at u0
  unfold Decoder.instr
  show Except.bind ((Reader.u1 : Decoder Nat) c p) _ = _
  rw [u0]
  show Except.bind ((Reader.u1 : Decoder Nat) c (p + 1)) _ = _
  rw [dk_u1 h1]
  rfl
theorem dk_ldc {c : ByteArray} {p : Nat} {b0 b1 : UInt8} (h0 : c.data.toList[p]? = some b0) (h1 : c.data.toList[p + 1]? = some b1) (e : b0.toNat = 18) : (Decoder.instr p) c p = .ok (.ldc b1.toNat, p + 2) := by
  have u0 := dk_u1 h0
  rw [e] at u0
  unfold Decoder.instr
  show Except.bind ((Reader.u1 : Decoder Nat) c p) _ = _
  rw [u0]
  show Except.bind ((Reader.u1 : Decoder Nat) c (p + 1)) _ = _
  rw [dk_u1 h1]
  rfl
theorem dk_lload {c : ByteArray} {p : Nat} {b0 b1 : UInt8} (h0 : c.data.toList[p]? = some b0) (h1 : c.data.toList[p + 1]? = some b1) (e : b0.toNat = 22) : (Decoder.instr p) c p = .ok (.lload b1.toNat, p + 2) := by
  have u0 := dk_u1 h0
  rw [e] at u0
  unfold Decoder.instr
  show Except.bind ((Reader.u1 : Decoder Nat) c p) _ = _
  rw [u0]
  show Except.bind ((Reader.u1 : Decoder Nat) c (p + 1)) _ = _
  rw [dk_u1 h1]
  rfl
theorem dk_lstore {c : ByteArray} {p : Nat} {b0 b1 : UInt8} (h0 : c.data.toList[p]? = some b0) (h1 : c.data.toList[p + 1]? = some b1) (e : b0.toNat = 55) : (Decoder.instr p) c p = .ok (.lstore b1.toNat, p + 2) := by
  have u0 := dk_u1 h0
  rw [e] at u0
  unfold Decoder.instr
  show Except.bind ((Reader.u1 : Decoder Nat) c p) _ = _
  rw [u0]
  show Except.bind ((Reader.u1 : Decoder Nat) c (p + 1)) _ = _
  rw [dk_u1 h1]
  rfl
theorem dk_bipush {c : ByteArray} {p : Nat} {b0 b1 : UInt8} (h0 : c.data.toList[p]? = some b0) (h1 : c.data.toList[p + 1]? = some b1) (e : b0.toNat = 16) : (Decoder.instr p) c p = .ok (.bipush (Reader.signed 8 b1.toNat), p + 2) := by
  have u0 := dk_u1 h0
  rw [e] at u0
  unfold Decoder.instr
  show Except.bind ((Reader.u1 : Decoder Nat) c p) _ = _
  rw [u0]
  show Except.bind ((Reader.s1 : Decoder Int) c (p + 1)) _ = _
  rw [dk_s1 h1]
  rfl
theorem dk_anewarray {c : ByteArray} {p : Nat} {b0 b1 b2 : UInt8} (h0 : c.data.toList[p]? = some b0) (h1 : c.data.toList[p + 1]? = some b1) (h2 : c.data.toList[p + 2]? = some b2) (e : b0.toNat = 189) : (Decoder.instr p) c p = .ok (.anewarray (b1.toNat * 256 + b2.toNat), p + 3) := by
  have u0 := dk_u1 h0
  rw [e] at u0
  unfold Decoder.instr
  show Except.bind ((Reader.u1 : Decoder Nat) c p) _ = _
  rw [u0]
  show Except.bind ((Reader.u2 : Decoder Nat) c (p + 1)) _ = _
  rw [dk_u2 h1 h2]
  rfl
theorem dk_checkcast {c : ByteArray} {p : Nat} {b0 b1 b2 : UInt8} (h0 : c.data.toList[p]? = some b0) (h1 : c.data.toList[p + 1]? = some b1) (h2 : c.data.toList[p + 2]? = some b2) (e : b0.toNat = 192) : (Decoder.instr p) c p = .ok (.checkcast (b1.toNat * 256 + b2.toNat), p + 3) := by
  have u0 := dk_u1 h0
  rw [e] at u0
  unfold Decoder.instr
  show Except.bind ((Reader.u1 : Decoder Nat) c p) _ = _
  rw [u0]
  show Except.bind ((Reader.u2 : Decoder Nat) c (p + 1)) _ = _
  rw [dk_u2 h1 h2]
  rfl
theorem dk_getfield {c : ByteArray} {p : Nat} {b0 b1 b2 : UInt8} (h0 : c.data.toList[p]? = some b0) (h1 : c.data.toList[p + 1]? = some b1) (h2 : c.data.toList[p + 2]? = some b2) (e : b0.toNat = 180) : (Decoder.instr p) c p = .ok (.getfield (b1.toNat * 256 + b2.toNat), p + 3) := by
  have u0 := dk_u1 h0
  rw [e] at u0
  unfold Decoder.instr
  show Except.bind ((Reader.u1 : Decoder Nat) c p) _ = _
  rw [u0]
  show Except.bind ((Reader.u2 : Decoder Nat) c (p + 1)) _ = _
  rw [dk_u2 h1 h2]
  rfl
theorem dk_getstatic {c : ByteArray} {p : Nat} {b0 b1 b2 : UInt8} (h0 : c.data.toList[p]? = some b0) (h1 : c.data.toList[p + 1]? = some b1) (h2 : c.data.toList[p + 2]? = some b2) (e : b0.toNat = 178) : (Decoder.instr p) c p = .ok (.getstatic (b1.toNat * 256 + b2.toNat), p + 3) := by
  have u0 := dk_u1 h0
  rw [e] at u0
  unfold Decoder.instr
  show Except.bind ((Reader.u1 : Decoder Nat) c p) _ = _
  rw [u0]
  show Except.bind ((Reader.u2 : Decoder Nat) c (p + 1)) _ = _
  rw [dk_u2 h1 h2]
  rfl
theorem dk_invokespecial {c : ByteArray} {p : Nat} {b0 b1 b2 : UInt8} (h0 : c.data.toList[p]? = some b0) (h1 : c.data.toList[p + 1]? = some b1) (h2 : c.data.toList[p + 2]? = some b2) (e : b0.toNat = 183) : (Decoder.instr p) c p = .ok (.invokespecial (b1.toNat * 256 + b2.toNat), p + 3) := by
  have u0 := dk_u1 h0
  rw [e] at u0
  unfold Decoder.instr
  show Except.bind ((Reader.u1 : Decoder Nat) c p) _ = _
  rw [u0]
  show Except.bind ((Reader.u2 : Decoder Nat) c (p + 1)) _ = _
  rw [dk_u2 h1 h2]
  rfl
theorem dk_invokestatic {c : ByteArray} {p : Nat} {b0 b1 b2 : UInt8} (h0 : c.data.toList[p]? = some b0) (h1 : c.data.toList[p + 1]? = some b1) (h2 : c.data.toList[p + 2]? = some b2) (e : b0.toNat = 184) : (Decoder.instr p) c p = .ok (.invokestatic (b1.toNat * 256 + b2.toNat), p + 3) := by
  have u0 := dk_u1 h0
  rw [e] at u0
  unfold Decoder.instr
  show Except.bind ((Reader.u1 : Decoder Nat) c p) _ = _
  rw [u0]
  show Except.bind ((Reader.u2 : Decoder Nat) c (p + 1)) _ = _
  rw [dk_u2 h1 h2]
  rfl
theorem dk_invokevirtual {c : ByteArray} {p : Nat} {b0 b1 b2 : UInt8} (h0 : c.data.toList[p]? = some b0) (h1 : c.data.toList[p + 1]? = some b1) (h2 : c.data.toList[p + 2]? = some b2) (e : b0.toNat = 182) : (Decoder.instr p) c p = .ok (.invokevirtual (b1.toNat * 256 + b2.toNat), p + 3) := by
  have u0 := dk_u1 h0
  rw [e] at u0
  unfold Decoder.instr
  show Except.bind ((Reader.u1 : Decoder Nat) c p) _ = _
  rw [u0]
  show Except.bind ((Reader.u2 : Decoder Nat) c (p + 1)) _ = _
  rw [dk_u2 h1 h2]
  rfl
theorem dk_ldc2_w {c : ByteArray} {p : Nat} {b0 b1 b2 : UInt8} (h0 : c.data.toList[p]? = some b0) (h1 : c.data.toList[p + 1]? = some b1) (h2 : c.data.toList[p + 2]? = some b2) (e : b0.toNat = 20) : (Decoder.instr p) c p = .ok (.ldc2_w (b1.toNat * 256 + b2.toNat), p + 3) := by
  have u0 := dk_u1 h0
  rw [e] at u0
  unfold Decoder.instr
  show Except.bind ((Reader.u1 : Decoder Nat) c p) _ = _
  rw [u0]
  show Except.bind ((Reader.u2 : Decoder Nat) c (p + 1)) _ = _
  rw [dk_u2 h1 h2]
  rfl
theorem dk_ldc_w {c : ByteArray} {p : Nat} {b0 b1 b2 : UInt8} (h0 : c.data.toList[p]? = some b0) (h1 : c.data.toList[p + 1]? = some b1) (h2 : c.data.toList[p + 2]? = some b2) (e : b0.toNat = 19) : (Decoder.instr p) c p = .ok (.ldc_w (b1.toNat * 256 + b2.toNat), p + 3) := by
  have u0 := dk_u1 h0
  rw [e] at u0
  unfold Decoder.instr
  show Except.bind ((Reader.u1 : Decoder Nat) c p) _ = _
  rw [u0]
  show Except.bind ((Reader.u2 : Decoder Nat) c (p + 1)) _ = _
  rw [dk_u2 h1 h2]
  rfl
theorem dk_new {c : ByteArray} {p : Nat} {b0 b1 b2 : UInt8} (h0 : c.data.toList[p]? = some b0) (h1 : c.data.toList[p + 1]? = some b1) (h2 : c.data.toList[p + 2]? = some b2) (e : b0.toNat = 187) : (Decoder.instr p) c p = .ok (.new (b1.toNat * 256 + b2.toNat), p + 3) := by
  have u0 := dk_u1 h0
  rw [e] at u0
  unfold Decoder.instr
  show Except.bind ((Reader.u1 : Decoder Nat) c p) _ = _
  rw [u0]
  show Except.bind ((Reader.u2 : Decoder Nat) c (p + 1)) _ = _
  rw [dk_u2 h1 h2]
  rfl
theorem dk_putfield {c : ByteArray} {p : Nat} {b0 b1 b2 : UInt8} (h0 : c.data.toList[p]? = some b0) (h1 : c.data.toList[p + 1]? = some b1) (h2 : c.data.toList[p + 2]? = some b2) (e : b0.toNat = 181) : (Decoder.instr p) c p = .ok (.putfield (b1.toNat * 256 + b2.toNat), p + 3) := by
  have u0 := dk_u1 h0
  rw [e] at u0
  unfold Decoder.instr
  show Except.bind ((Reader.u1 : Decoder Nat) c p) _ = _
  rw [u0]
  show Except.bind ((Reader.u2 : Decoder Nat) c (p + 1)) _ = _
  rw [dk_u2 h1 h2]
  rfl
theorem dk_goto {c : ByteArray} {p : Nat} {b0 b1 b2 : UInt8} (h0 : c.data.toList[p]? = some b0) (h1 : c.data.toList[p + 1]? = some b1) (h2 : c.data.toList[p + 2]? = some b2) (e : b0.toNat = 167) : (Decoder.instr p) c p = .ok (.goto (Reader.signed 16 (b1.toNat * 256 + b2.toNat)), p + 3) := by
  have u0 := dk_u1 h0
  rw [e] at u0
  unfold Decoder.instr
  show Except.bind ((Reader.u1 : Decoder Nat) c p) _ = _
  rw [u0]
  show Except.bind ((Reader.s2 : Decoder Int) c (p + 1)) _ = _
  rw [dk_s2 h1 h2]
  rfl
theorem dk_ifnonnull {c : ByteArray} {p : Nat} {b0 b1 b2 : UInt8} (h0 : c.data.toList[p]? = some b0) (h1 : c.data.toList[p + 1]? = some b1) (h2 : c.data.toList[p + 2]? = some b2) (e : b0.toNat = 199) : (Decoder.instr p) c p = .ok (.ifnonnull (Reader.signed 16 (b1.toNat * 256 + b2.toNat)), p + 3) := by
  have u0 := dk_u1 h0
  rw [e] at u0
  unfold Decoder.instr
  show Except.bind ((Reader.u1 : Decoder Nat) c p) _ = _
  rw [u0]
  show Except.bind ((Reader.s2 : Decoder Int) c (p + 1)) _ = _
  rw [dk_s2 h1 h2]
  rfl
theorem dk_ifnull {c : ByteArray} {p : Nat} {b0 b1 b2 : UInt8} (h0 : c.data.toList[p]? = some b0) (h1 : c.data.toList[p + 1]? = some b1) (h2 : c.data.toList[p + 2]? = some b2) (e : b0.toNat = 198) : (Decoder.instr p) c p = .ok (.ifnull (Reader.signed 16 (b1.toNat * 256 + b2.toNat)), p + 3) := by
  have u0 := dk_u1 h0
  rw [e] at u0
  unfold Decoder.instr
  show Except.bind ((Reader.u1 : Decoder Nat) c p) _ = _
  rw [u0]
  show Except.bind ((Reader.s2 : Decoder Int) c (p + 1)) _ = _
  rw [dk_s2 h1 h2]
  rfl
theorem dk_sipush {c : ByteArray} {p : Nat} {b0 b1 b2 : UInt8} (h0 : c.data.toList[p]? = some b0) (h1 : c.data.toList[p + 1]? = some b1) (h2 : c.data.toList[p + 2]? = some b2) (e : b0.toNat = 17) : (Decoder.instr p) c p = .ok (.sipush (Reader.signed 16 (b1.toNat * 256 + b2.toNat)), p + 3) := by
  have u0 := dk_u1 h0
  rw [e] at u0
  unfold Decoder.instr
  show Except.bind ((Reader.u1 : Decoder Nat) c p) _ = _
  rw [u0]
  show Except.bind ((Reader.s2 : Decoder Int) c (p + 1)) _ = _
  rw [dk_s2 h1 h2]
  rfl
theorem dk_iconst0 {c : ByteArray} {p : Nat} {b0 : UInt8} (h0 : c.data.toList[p]? = some b0) (e : b0.toNat = 2) : (Decoder.instr p) c p = .ok (.iconst (-1), p + 1) := by
  have u0 := dk_u1 h0
  rw [e] at u0
  unfold Decoder.instr
  show Except.bind ((Reader.u1 : Decoder Nat) c p) _ = _
  rw [u0]
  rfl
theorem dk_iconst1 {c : ByteArray} {p : Nat} {b0 : UInt8} (h0 : c.data.toList[p]? = some b0) (e : b0.toNat = 3) : (Decoder.instr p) c p = .ok (.iconst (0), p + 1) := by
  have u0 := dk_u1 h0
  rw [e] at u0
  unfold Decoder.instr
  show Except.bind ((Reader.u1 : Decoder Nat) c p) _ = _
  rw [u0]
  rfl
theorem dk_iconst2 {c : ByteArray} {p : Nat} {b0 : UInt8} (h0 : c.data.toList[p]? = some b0) (e : b0.toNat = 4) : (Decoder.instr p) c p = .ok (.iconst (1), p + 1) := by
  have u0 := dk_u1 h0
  rw [e] at u0
  unfold Decoder.instr
  show Except.bind ((Reader.u1 : Decoder Nat) c p) _ = _
  rw [u0]
  rfl
theorem dk_iconst3 {c : ByteArray} {p : Nat} {b0 : UInt8} (h0 : c.data.toList[p]? = some b0) (e : b0.toNat = 5) : (Decoder.instr p) c p = .ok (.iconst (2), p + 1) := by
  have u0 := dk_u1 h0
  rw [e] at u0
  unfold Decoder.instr
  show Except.bind ((Reader.u1 : Decoder Nat) c p) _ = _
  rw [u0]
  rfl
theorem dk_iconst4 {c : ByteArray} {p : Nat} {b0 : UInt8} (h0 : c.data.toList[p]? = some b0) (e : b0.toNat = 6) : (Decoder.instr p) c p = .ok (.iconst (3), p + 1) := by
  have u0 := dk_u1 h0
  rw [e] at u0
  unfold Decoder.instr
  show Except.bind ((Reader.u1 : Decoder Nat) c p) _ = _
  rw [u0]
  rfl
theorem dk_iconst5 {c : ByteArray} {p : Nat} {b0 : UInt8} (h0 : c.data.toList[p]? = some b0) (e : b0.toNat = 7) : (Decoder.instr p) c p = .ok (.iconst (4), p + 1) := by
  have u0 := dk_u1 h0
  rw [e] at u0
  unfold Decoder.instr
  show Except.bind ((Reader.u1 : Decoder Nat) c p) _ = _
  rw [u0]
  rfl
theorem dk_iconst6 {c : ByteArray} {p : Nat} {b0 : UInt8} (h0 : c.data.toList[p]? = some b0) (e : b0.toNat = 8) : (Decoder.instr p) c p = .ok (.iconst (5), p + 1) := by
  have u0 := dk_u1 h0
  rw [e] at u0
  unfold Decoder.instr
  show Except.bind ((Reader.u1 : Decoder Nat) c p) _ = _
  rw [u0]
  rfl
theorem dk_iinc {c : ByteArray} {p : Nat} {b0 b1 b2 : UInt8} (h0 : c.data.toList[p]? = some b0) (h1 : c.data.toList[p + 1]? = some b1) (h2 : c.data.toList[p + 2]? = some b2) (e : b0.toNat = 132) : (Decoder.instr p) c p = .ok (.iinc b1.toNat (Reader.signed 8 b2.toNat), p + 3) := by
  have u0 := dk_u1 h0
  rw [e] at u0
  unfold Decoder.instr
  show Except.bind ((Reader.u1 : Decoder Nat) c p) _ = _
  rw [u0]
  show Except.bind ((Reader.u1 : Decoder Nat) c (p + 1)) _ = _
  rw [dk_u1 h1]
  show Except.bind ((Reader.s1 : Decoder Int) c (p + 2)) _ = _
  rw [dk_s1 h2]
  rfl
theorem dk_ifCond_eq {c : ByteArray} {p : Nat} {b0 b1 b2 : UInt8} (h0 : c.data.toList[p]? = some b0) (h1 : c.data.toList[p + 1]? = some b1) (h2 : c.data.toList[p + 2]? = some b2) (e : b0.toNat = 153) : (Decoder.instr p) c p = .ok (.ifCond .eq (Reader.signed 16 (b1.toNat * 256 + b2.toNat)), p + 3) := by
  have u0 := dk_u1 h0
  rw [e] at u0
  unfold Decoder.instr
  show Except.bind ((Reader.u1 : Decoder Nat) c p) _ = _
  rw [u0]
  show Except.bind ((Reader.s2 : Decoder Int) c (p + 1)) _ = _
  rw [dk_s2 h1 h2]
  rfl
theorem dk_ifCond_ne {c : ByteArray} {p : Nat} {b0 b1 b2 : UInt8} (h0 : c.data.toList[p]? = some b0) (h1 : c.data.toList[p + 1]? = some b1) (h2 : c.data.toList[p + 2]? = some b2) (e : b0.toNat = 154) : (Decoder.instr p) c p = .ok (.ifCond .ne (Reader.signed 16 (b1.toNat * 256 + b2.toNat)), p + 3) := by
  have u0 := dk_u1 h0
  rw [e] at u0
  unfold Decoder.instr
  show Except.bind ((Reader.u1 : Decoder Nat) c p) _ = _
  rw [u0]
  show Except.bind ((Reader.s2 : Decoder Int) c (p + 1)) _ = _
  rw [dk_s2 h1 h2]
  rfl
theorem dk_ifCond_lt {c : ByteArray} {p : Nat} {b0 b1 b2 : UInt8} (h0 : c.data.toList[p]? = some b0) (h1 : c.data.toList[p + 1]? = some b1) (h2 : c.data.toList[p + 2]? = some b2) (e : b0.toNat = 155) : (Decoder.instr p) c p = .ok (.ifCond .lt (Reader.signed 16 (b1.toNat * 256 + b2.toNat)), p + 3) := by
  have u0 := dk_u1 h0
  rw [e] at u0
  unfold Decoder.instr
  show Except.bind ((Reader.u1 : Decoder Nat) c p) _ = _
  rw [u0]
  show Except.bind ((Reader.s2 : Decoder Int) c (p + 1)) _ = _
  rw [dk_s2 h1 h2]
  rfl
theorem dk_ifCond_ge {c : ByteArray} {p : Nat} {b0 b1 b2 : UInt8} (h0 : c.data.toList[p]? = some b0) (h1 : c.data.toList[p + 1]? = some b1) (h2 : c.data.toList[p + 2]? = some b2) (e : b0.toNat = 156) : (Decoder.instr p) c p = .ok (.ifCond .ge (Reader.signed 16 (b1.toNat * 256 + b2.toNat)), p + 3) := by
  have u0 := dk_u1 h0
  rw [e] at u0
  unfold Decoder.instr
  show Except.bind ((Reader.u1 : Decoder Nat) c p) _ = _
  rw [u0]
  show Except.bind ((Reader.s2 : Decoder Int) c (p + 1)) _ = _
  rw [dk_s2 h1 h2]
  rfl
theorem dk_ifCond_gt {c : ByteArray} {p : Nat} {b0 b1 b2 : UInt8} (h0 : c.data.toList[p]? = some b0) (h1 : c.data.toList[p + 1]? = some b1) (h2 : c.data.toList[p + 2]? = some b2) (e : b0.toNat = 157) : (Decoder.instr p) c p = .ok (.ifCond .gt (Reader.signed 16 (b1.toNat * 256 + b2.toNat)), p + 3) := by
  have u0 := dk_u1 h0
  rw [e] at u0
  unfold Decoder.instr
  show Except.bind ((Reader.u1 : Decoder Nat) c p) _ = _
  rw [u0]
  show Except.bind ((Reader.s2 : Decoder Int) c (p + 1)) _ = _
  rw [dk_s2 h1 h2]
  rfl
theorem dk_ifCond_le {c : ByteArray} {p : Nat} {b0 b1 b2 : UInt8} (h0 : c.data.toList[p]? = some b0) (h1 : c.data.toList[p + 1]? = some b1) (h2 : c.data.toList[p + 2]? = some b2) (e : b0.toNat = 158) : (Decoder.instr p) c p = .ok (.ifCond .le (Reader.signed 16 (b1.toNat * 256 + b2.toNat)), p + 3) := by
  have u0 := dk_u1 h0
  rw [e] at u0
  unfold Decoder.instr
  show Except.bind ((Reader.u1 : Decoder Nat) c p) _ = _
  rw [u0]
  show Except.bind ((Reader.s2 : Decoder Int) c (p + 1)) _ = _
  rw [dk_s2 h1 h2]
  rfl
theorem dk_if_icmp_eq {c : ByteArray} {p : Nat} {b0 b1 b2 : UInt8} (h0 : c.data.toList[p]? = some b0) (h1 : c.data.toList[p + 1]? = some b1) (h2 : c.data.toList[p + 2]? = some b2) (e : b0.toNat = 159) : (Decoder.instr p) c p = .ok (.if_icmp .eq (Reader.signed 16 (b1.toNat * 256 + b2.toNat)), p + 3) := by
  have u0 := dk_u1 h0
  rw [e] at u0
  unfold Decoder.instr
  show Except.bind ((Reader.u1 : Decoder Nat) c p) _ = _
  rw [u0]
  show Except.bind ((Reader.s2 : Decoder Int) c (p + 1)) _ = _
  rw [dk_s2 h1 h2]
  rfl
theorem dk_if_icmp_ne {c : ByteArray} {p : Nat} {b0 b1 b2 : UInt8} (h0 : c.data.toList[p]? = some b0) (h1 : c.data.toList[p + 1]? = some b1) (h2 : c.data.toList[p + 2]? = some b2) (e : b0.toNat = 160) : (Decoder.instr p) c p = .ok (.if_icmp .ne (Reader.signed 16 (b1.toNat * 256 + b2.toNat)), p + 3) := by
  have u0 := dk_u1 h0
  rw [e] at u0
  unfold Decoder.instr
  show Except.bind ((Reader.u1 : Decoder Nat) c p) _ = _
  rw [u0]
  show Except.bind ((Reader.s2 : Decoder Int) c (p + 1)) _ = _
  rw [dk_s2 h1 h2]
  rfl
theorem dk_if_icmp_lt {c : ByteArray} {p : Nat} {b0 b1 b2 : UInt8} (h0 : c.data.toList[p]? = some b0) (h1 : c.data.toList[p + 1]? = some b1) (h2 : c.data.toList[p + 2]? = some b2) (e : b0.toNat = 161) : (Decoder.instr p) c p = .ok (.if_icmp .lt (Reader.signed 16 (b1.toNat * 256 + b2.toNat)), p + 3) := by
  have u0 := dk_u1 h0
  rw [e] at u0
  unfold Decoder.instr
  show Except.bind ((Reader.u1 : Decoder Nat) c p) _ = _
  rw [u0]
  show Except.bind ((Reader.s2 : Decoder Int) c (p + 1)) _ = _
  rw [dk_s2 h1 h2]
  rfl
theorem dk_if_icmp_ge {c : ByteArray} {p : Nat} {b0 b1 b2 : UInt8} (h0 : c.data.toList[p]? = some b0) (h1 : c.data.toList[p + 1]? = some b1) (h2 : c.data.toList[p + 2]? = some b2) (e : b0.toNat = 162) : (Decoder.instr p) c p = .ok (.if_icmp .ge (Reader.signed 16 (b1.toNat * 256 + b2.toNat)), p + 3) := by
  have u0 := dk_u1 h0
  rw [e] at u0
  unfold Decoder.instr
  show Except.bind ((Reader.u1 : Decoder Nat) c p) _ = _
  rw [u0]
  show Except.bind ((Reader.s2 : Decoder Int) c (p + 1)) _ = _
  rw [dk_s2 h1 h2]
  rfl
theorem dk_if_icmp_gt {c : ByteArray} {p : Nat} {b0 b1 b2 : UInt8} (h0 : c.data.toList[p]? = some b0) (h1 : c.data.toList[p + 1]? = some b1) (h2 : c.data.toList[p + 2]? = some b2) (e : b0.toNat = 163) : (Decoder.instr p) c p = .ok (.if_icmp .gt (Reader.signed 16 (b1.toNat * 256 + b2.toNat)), p + 3) := by
  have u0 := dk_u1 h0
  rw [e] at u0
  unfold Decoder.instr
  show Except.bind ((Reader.u1 : Decoder Nat) c p) _ = _
  rw [u0]
  show Except.bind ((Reader.s2 : Decoder Int) c (p + 1)) _ = _
  rw [dk_s2 h1 h2]
  rfl
theorem dk_if_icmp_le {c : ByteArray} {p : Nat} {b0 b1 b2 : UInt8} (h0 : c.data.toList[p]? = some b0) (h1 : c.data.toList[p + 1]? = some b1) (h2 : c.data.toList[p + 2]? = some b2) (e : b0.toNat = 164) : (Decoder.instr p) c p = .ok (.if_icmp .le (Reader.signed 16 (b1.toNat * 256 + b2.toNat)), p + 3) := by
  have u0 := dk_u1 h0
  rw [e] at u0
  unfold Decoder.instr
  show Except.bind ((Reader.u1 : Decoder Nat) c p) _ = _
  rw [u0]
  show Except.bind ((Reader.s2 : Decoder Int) c (p + 1)) _ = _
  rw [dk_s2 h1 h2]
  rfl
theorem dk_if_acmp_eq {c : ByteArray} {p : Nat} {b0 b1 b2 : UInt8} (h0 : c.data.toList[p]? = some b0) (h1 : c.data.toList[p + 1]? = some b1) (h2 : c.data.toList[p + 2]? = some b2) (e : b0.toNat = 165) : (Decoder.instr p) c p = .ok (.if_acmp .eq (Reader.signed 16 (b1.toNat * 256 + b2.toNat)), p + 3) := by
  have u0 := dk_u1 h0
  rw [e] at u0
  unfold Decoder.instr
  show Except.bind ((Reader.u1 : Decoder Nat) c p) _ = _
  rw [u0]
  show Except.bind ((Reader.s2 : Decoder Int) c (p + 1)) _ = _
  rw [dk_s2 h1 h2]
  rfl
theorem dk_if_acmp_ne {c : ByteArray} {p : Nat} {b0 b1 b2 : UInt8} (h0 : c.data.toList[p]? = some b0) (h1 : c.data.toList[p + 1]? = some b1) (h2 : c.data.toList[p + 2]? = some b2) (e : b0.toNat = 166) : (Decoder.instr p) c p = .ok (.if_acmp .ne (Reader.signed 16 (b1.toNat * 256 + b2.toNat)), p + 3) := by
  have u0 := dk_u1 h0
  rw [e] at u0
  unfold Decoder.instr
  show Except.bind ((Reader.u1 : Decoder Nat) c p) _ = _
  rw [u0]
  show Except.bind ((Reader.s2 : Decoder Int) c (p + 1)) _ = _
  rw [dk_s2 h1 h2]
  rfl
theorem dk_dcmp_l {c : ByteArray} {p : Nat} {b0 : UInt8} (h0 : c.data.toList[p]? = some b0) (e : b0.toNat = 151) : (Decoder.instr p) c p = .ok (.dcmp .l, p + 1) := by
  have u0 := dk_u1 h0
  rw [e] at u0
  unfold Decoder.instr
  show Except.bind ((Reader.u1 : Decoder Nat) c p) _ = _
  rw [u0]
  rfl
theorem dk_dcmp_g {c : ByteArray} {p : Nat} {b0 : UInt8} (h0 : c.data.toList[p]? = some b0) (e : b0.toNat = 152) : (Decoder.instr p) c p = .ok (.dcmp .g, p + 1) := by
  have u0 := dk_u1 h0
  rw [e] at u0
  unfold Decoder.instr
  show Except.bind ((Reader.u1 : Decoder Nat) c p) _ = _
  rw [u0]
  rfl
def ck (i : Instr) (n : Nat) (l : List UInt8) : Bool := match i, l with
  | .aaload, b0 :: _ => b0.toNat == 50 && n == 1
  | .aastore, b0 :: _ => b0.toNat == 83 && n == 1
  | .aconst_null, b0 :: _ => b0.toNat == 1 && n == 1
  | .areturn, b0 :: _ => b0.toNat == 176 && n == 1
  | .arraylength, b0 :: _ => b0.toNat == 190 && n == 1
  | .athrow, b0 :: _ => b0.toNat == 191 && n == 1
  | .baload, b0 :: _ => b0.toNat == 51 && n == 1
  | .bastore, b0 :: _ => b0.toNat == 84 && n == 1
  | .d2i, b0 :: _ => b0.toNat == 142 && n == 1
  | .dadd, b0 :: _ => b0.toNat == 99 && n == 1
  | .dastore, b0 :: _ => b0.toNat == 82 && n == 1
  | .ddiv, b0 :: _ => b0.toNat == 111 && n == 1
  | .dmul, b0 :: _ => b0.toNat == 107 && n == 1
  | .dreturn, b0 :: _ => b0.toNat == 175 && n == 1
  | .dsub, b0 :: _ => b0.toNat == 103 && n == 1
  | .dup, b0 :: _ => b0.toNat == 89 && n == 1
  | .dup2, b0 :: _ => b0.toNat == 92 && n == 1
  | .dup_x1, b0 :: _ => b0.toNat == 90 && n == 1
  | .i2b, b0 :: _ => b0.toNat == 145 && n == 1
  | .i2c, b0 :: _ => b0.toNat == 146 && n == 1
  | .i2d, b0 :: _ => b0.toNat == 135 && n == 1
  | .i2l, b0 :: _ => b0.toNat == 133 && n == 1
  | .iadd, b0 :: _ => b0.toNat == 96 && n == 1
  | .iaload, b0 :: _ => b0.toNat == 46 && n == 1
  | .iand, b0 :: _ => b0.toNat == 126 && n == 1
  | .iastore, b0 :: _ => b0.toNat == 79 && n == 1
  | .idiv, b0 :: _ => b0.toNat == 108 && n == 1
  | .imul, b0 :: _ => b0.toNat == 104 && n == 1
  | .ineg, b0 :: _ => b0.toNat == 116 && n == 1
  | .ior, b0 :: _ => b0.toNat == 128 && n == 1
  | .irem, b0 :: _ => b0.toNat == 112 && n == 1
  | .ireturn, b0 :: _ => b0.toNat == 172 && n == 1
  | .ishl, b0 :: _ => b0.toNat == 120 && n == 1
  | .ishr, b0 :: _ => b0.toNat == 122 && n == 1
  | .isub, b0 :: _ => b0.toNat == 100 && n == 1
  | .iushr, b0 :: _ => b0.toNat == 124 && n == 1
  | .ixor, b0 :: _ => b0.toNat == 130 && n == 1
  | .ladd, b0 :: _ => b0.toNat == 97 && n == 1
  | .laload, b0 :: _ => b0.toNat == 47 && n == 1
  | .lastore, b0 :: _ => b0.toNat == 80 && n == 1
  | .lcmp, b0 :: _ => b0.toNat == 148 && n == 1
  | .lreturn, b0 :: _ => b0.toNat == 173 && n == 1
  | .pop, b0 :: _ => b0.toNat == 87 && n == 1
  | .pop2, b0 :: _ => b0.toNat == 88 && n == 1
  | .return_, b0 :: _ => b0.toNat == 177 && n == 1
  | .aload_n k, b0 :: _ => b0.toNat == 42 + k.val && n == 1
  | .astore_n k, b0 :: _ => b0.toNat == 75 + k.val && n == 1
  | .dconst k, b0 :: _ => b0.toNat == 14 + k.val && n == 1
  | .dload_n k, b0 :: _ => b0.toNat == 38 + k.val && n == 1
  | .dstore_n k, b0 :: _ => b0.toNat == 71 + k.val && n == 1
  | .iload_n k, b0 :: _ => b0.toNat == 26 + k.val && n == 1
  | .istore_n k, b0 :: _ => b0.toNat == 59 + k.val && n == 1
  | .lconst k, b0 :: _ => b0.toNat == 9 + k.val && n == 1
  | .lload_n k, b0 :: _ => b0.toNat == 30 + k.val && n == 1
  | .aload k, b0 :: b1 :: _ => b0.toNat == 25 && b1.toNat == k && n == 2
  | .astore k, b0 :: b1 :: _ => b0.toNat == 58 && b1.toNat == k && n == 2
  | .dload k, b0 :: b1 :: _ => b0.toNat == 24 && b1.toNat == k && n == 2
  | .dstore k, b0 :: b1 :: _ => b0.toNat == 57 && b1.toNat == k && n == 2
  | .iload k, b0 :: b1 :: _ => b0.toNat == 21 && b1.toNat == k && n == 2
  | .istore k, b0 :: b1 :: _ => b0.toNat == 54 && b1.toNat == k && n == 2
  | .ldc k, b0 :: b1 :: _ => b0.toNat == 18 && b1.toNat == k && n == 2
  | .lload k, b0 :: b1 :: _ => b0.toNat == 22 && b1.toNat == k && n == 2
  | .lstore k, b0 :: b1 :: _ => b0.toNat == 55 && b1.toNat == k && n == 2
  | .bipush k, b0 :: b1 :: _ => b0.toNat == 16 && Reader.signed 8 b1.toNat == k && n == 2
  | .anewarray k, b0 :: b1 :: b2 :: _ => b0.toNat == 189 && b1.toNat * 256 + b2.toNat == k && n == 3
  | .checkcast k, b0 :: b1 :: b2 :: _ => b0.toNat == 192 && b1.toNat * 256 + b2.toNat == k && n == 3
  | .getfield k, b0 :: b1 :: b2 :: _ => b0.toNat == 180 && b1.toNat * 256 + b2.toNat == k && n == 3
  | .getstatic k, b0 :: b1 :: b2 :: _ => b0.toNat == 178 && b1.toNat * 256 + b2.toNat == k && n == 3
  | .invokespecial k, b0 :: b1 :: b2 :: _ => b0.toNat == 183 && b1.toNat * 256 + b2.toNat == k && n == 3
  | .invokestatic k, b0 :: b1 :: b2 :: _ => b0.toNat == 184 && b1.toNat * 256 + b2.toNat == k && n == 3
  | .invokevirtual k, b0 :: b1 :: b2 :: _ => b0.toNat == 182 && b1.toNat * 256 + b2.toNat == k && n == 3
  | .ldc2_w k, b0 :: b1 :: b2 :: _ => b0.toNat == 20 && b1.toNat * 256 + b2.toNat == k && n == 3
  | .ldc_w k, b0 :: b1 :: b2 :: _ => b0.toNat == 19 && b1.toNat * 256 + b2.toNat == k && n == 3
  | .new k, b0 :: b1 :: b2 :: _ => b0.toNat == 187 && b1.toNat * 256 + b2.toNat == k && n == 3
  | .putfield k, b0 :: b1 :: b2 :: _ => b0.toNat == 181 && b1.toNat * 256 + b2.toNat == k && n == 3
  | .goto k, b0 :: b1 :: b2 :: _ => b0.toNat == 167 && Reader.signed 16 (b1.toNat * 256 + b2.toNat) == k && n == 3
  | .ifnonnull k, b0 :: b1 :: b2 :: _ => b0.toNat == 199 && Reader.signed 16 (b1.toNat * 256 + b2.toNat) == k && n == 3
  | .ifnull k, b0 :: b1 :: b2 :: _ => b0.toNat == 198 && Reader.signed 16 (b1.toNat * 256 + b2.toNat) == k && n == 3
  | .sipush k, b0 :: b1 :: b2 :: _ => b0.toNat == 17 && Reader.signed 16 (b1.toNat * 256 + b2.toNat) == k && n == 3
  | .iconst k, b0 :: _ => (2 ≤ b0.toNat && b0.toNat ≤ 8) && (b0.toNat : Int) - 3 == k && n == 1
  | .iinc k z, b0 :: b1 :: b2 :: _ => b0.toNat == 132 && b1.toNat == k && Reader.signed 8 b2.toNat == z && n == 3
  | .ifCond .eq k, b0 :: b1 :: b2 :: _ => b0.toNat == 153 && Reader.signed 16 (b1.toNat * 256 + b2.toNat) == k && n == 3
  | .ifCond .ne k, b0 :: b1 :: b2 :: _ => b0.toNat == 154 && Reader.signed 16 (b1.toNat * 256 + b2.toNat) == k && n == 3
  | .ifCond .lt k, b0 :: b1 :: b2 :: _ => b0.toNat == 155 && Reader.signed 16 (b1.toNat * 256 + b2.toNat) == k && n == 3
  | .ifCond .ge k, b0 :: b1 :: b2 :: _ => b0.toNat == 156 && Reader.signed 16 (b1.toNat * 256 + b2.toNat) == k && n == 3
  | .ifCond .gt k, b0 :: b1 :: b2 :: _ => b0.toNat == 157 && Reader.signed 16 (b1.toNat * 256 + b2.toNat) == k && n == 3
  | .ifCond .le k, b0 :: b1 :: b2 :: _ => b0.toNat == 158 && Reader.signed 16 (b1.toNat * 256 + b2.toNat) == k && n == 3
  | .if_icmp .eq k, b0 :: b1 :: b2 :: _ => b0.toNat == 159 && Reader.signed 16 (b1.toNat * 256 + b2.toNat) == k && n == 3
  | .if_icmp .ne k, b0 :: b1 :: b2 :: _ => b0.toNat == 160 && Reader.signed 16 (b1.toNat * 256 + b2.toNat) == k && n == 3
  | .if_icmp .lt k, b0 :: b1 :: b2 :: _ => b0.toNat == 161 && Reader.signed 16 (b1.toNat * 256 + b2.toNat) == k && n == 3
  | .if_icmp .ge k, b0 :: b1 :: b2 :: _ => b0.toNat == 162 && Reader.signed 16 (b1.toNat * 256 + b2.toNat) == k && n == 3
  | .if_icmp .gt k, b0 :: b1 :: b2 :: _ => b0.toNat == 163 && Reader.signed 16 (b1.toNat * 256 + b2.toNat) == k && n == 3
  | .if_icmp .le k, b0 :: b1 :: b2 :: _ => b0.toNat == 164 && Reader.signed 16 (b1.toNat * 256 + b2.toNat) == k && n == 3
  | .if_acmp .eq k, b0 :: b1 :: b2 :: _ => b0.toNat == 165 && Reader.signed 16 (b1.toNat * 256 + b2.toNat) == k && n == 3
  | .if_acmp .ne k, b0 :: b1 :: b2 :: _ => b0.toNat == 166 && Reader.signed 16 (b1.toNat * 256 + b2.toNat) == k && n == 3
  | .dcmp .l, b0 :: _ => b0.toNat == 151 && n == 1
  | .dcmp .g, b0 :: _ => b0.toNat == 152 && n == 1
  | _, _ => false
theorem ck_g {c : ByteArray} {p : Nat} {l : List UInt8} (hl : c.data.toList.drop p = l) (j : Nat) : c.data.toList[p + j]? = l[j]? := by rw [← hl, List.getElem?_drop]
set_option maxHeartbeats 4000000 in
theorem ck_ok {c : ByteArray} {p n : Nat} {i : Instr} (h : ck i n (c.data.toList.drop p) = true) : decode c p = .ok (i, n) := by
  generalize hl : c.data.toList.drop p = l at h
  cases i with
  | aaload  =>
    match l, hl, h with
    | [], _, h => exact Bool.noConfusion (show false = true from h)
    | b0 :: _, hl, h =>
      have g0 := ck_g hl 0
      have h : (b0.toNat == 50 && n == 1) = true := h
      simp only [Bool.and_eq_true, beq_iff_eq, decide_eq_true_eq] at h
      obtain ⟨e, rfl⟩ := h
      exact dk_dec (dk_aaload g0 e)
  | aastore  =>
    match l, hl, h with
    | [], _, h => exact Bool.noConfusion (show false = true from h)
    | b0 :: _, hl, h =>
      have g0 := ck_g hl 0
      have h : (b0.toNat == 83 && n == 1) = true := h
      simp only [Bool.and_eq_true, beq_iff_eq, decide_eq_true_eq] at h
      obtain ⟨e, rfl⟩ := h
      exact dk_dec (dk_aastore g0 e)
  | aconst_null  =>
    match l, hl, h with
    | [], _, h => exact Bool.noConfusion (show false = true from h)
    | b0 :: _, hl, h =>
      have g0 := ck_g hl 0
      have h : (b0.toNat == 1 && n == 1) = true := h
      simp only [Bool.and_eq_true, beq_iff_eq, decide_eq_true_eq] at h
      obtain ⟨e, rfl⟩ := h
      exact dk_dec (dk_aconst_null g0 e)
  | areturn  =>
    match l, hl, h with
    | [], _, h => exact Bool.noConfusion (show false = true from h)
    | b0 :: _, hl, h =>
      have g0 := ck_g hl 0
      have h : (b0.toNat == 176 && n == 1) = true := h
      simp only [Bool.and_eq_true, beq_iff_eq, decide_eq_true_eq] at h
      obtain ⟨e, rfl⟩ := h
      exact dk_dec (dk_areturn g0 e)
  | arraylength  =>
    match l, hl, h with
    | [], _, h => exact Bool.noConfusion (show false = true from h)
    | b0 :: _, hl, h =>
      have g0 := ck_g hl 0
      have h : (b0.toNat == 190 && n == 1) = true := h
      simp only [Bool.and_eq_true, beq_iff_eq, decide_eq_true_eq] at h
      obtain ⟨e, rfl⟩ := h
      exact dk_dec (dk_arraylength g0 e)
  | athrow  =>
    match l, hl, h with
    | [], _, h => exact Bool.noConfusion (show false = true from h)
    | b0 :: _, hl, h =>
      have g0 := ck_g hl 0
      have h : (b0.toNat == 191 && n == 1) = true := h
      simp only [Bool.and_eq_true, beq_iff_eq, decide_eq_true_eq] at h
      obtain ⟨e, rfl⟩ := h
      exact dk_dec (dk_athrow g0 e)
  | baload  =>
    match l, hl, h with
    | [], _, h => exact Bool.noConfusion (show false = true from h)
    | b0 :: _, hl, h =>
      have g0 := ck_g hl 0
      have h : (b0.toNat == 51 && n == 1) = true := h
      simp only [Bool.and_eq_true, beq_iff_eq, decide_eq_true_eq] at h
      obtain ⟨e, rfl⟩ := h
      exact dk_dec (dk_baload g0 e)
  | bastore  =>
    match l, hl, h with
    | [], _, h => exact Bool.noConfusion (show false = true from h)
    | b0 :: _, hl, h =>
      have g0 := ck_g hl 0
      have h : (b0.toNat == 84 && n == 1) = true := h
      simp only [Bool.and_eq_true, beq_iff_eq, decide_eq_true_eq] at h
      obtain ⟨e, rfl⟩ := h
      exact dk_dec (dk_bastore g0 e)
  | d2i  =>
    match l, hl, h with
    | [], _, h => exact Bool.noConfusion (show false = true from h)
    | b0 :: _, hl, h =>
      have g0 := ck_g hl 0
      have h : (b0.toNat == 142 && n == 1) = true := h
      simp only [Bool.and_eq_true, beq_iff_eq, decide_eq_true_eq] at h
      obtain ⟨e, rfl⟩ := h
      exact dk_dec (dk_d2i g0 e)
  | dadd  =>
    match l, hl, h with
    | [], _, h => exact Bool.noConfusion (show false = true from h)
    | b0 :: _, hl, h =>
      have g0 := ck_g hl 0
      have h : (b0.toNat == 99 && n == 1) = true := h
      simp only [Bool.and_eq_true, beq_iff_eq, decide_eq_true_eq] at h
      obtain ⟨e, rfl⟩ := h
      exact dk_dec (dk_dadd g0 e)
  | dastore  =>
    match l, hl, h with
    | [], _, h => exact Bool.noConfusion (show false = true from h)
    | b0 :: _, hl, h =>
      have g0 := ck_g hl 0
      have h : (b0.toNat == 82 && n == 1) = true := h
      simp only [Bool.and_eq_true, beq_iff_eq, decide_eq_true_eq] at h
      obtain ⟨e, rfl⟩ := h
      exact dk_dec (dk_dastore g0 e)
  | ddiv  =>
    match l, hl, h with
    | [], _, h => exact Bool.noConfusion (show false = true from h)
    | b0 :: _, hl, h =>
      have g0 := ck_g hl 0
      have h : (b0.toNat == 111 && n == 1) = true := h
      simp only [Bool.and_eq_true, beq_iff_eq, decide_eq_true_eq] at h
      obtain ⟨e, rfl⟩ := h
      exact dk_dec (dk_ddiv g0 e)
  | dmul  =>
    match l, hl, h with
    | [], _, h => exact Bool.noConfusion (show false = true from h)
    | b0 :: _, hl, h =>
      have g0 := ck_g hl 0
      have h : (b0.toNat == 107 && n == 1) = true := h
      simp only [Bool.and_eq_true, beq_iff_eq, decide_eq_true_eq] at h
      obtain ⟨e, rfl⟩ := h
      exact dk_dec (dk_dmul g0 e)
  | dreturn  =>
    match l, hl, h with
    | [], _, h => exact Bool.noConfusion (show false = true from h)
    | b0 :: _, hl, h =>
      have g0 := ck_g hl 0
      have h : (b0.toNat == 175 && n == 1) = true := h
      simp only [Bool.and_eq_true, beq_iff_eq, decide_eq_true_eq] at h
      obtain ⟨e, rfl⟩ := h
      exact dk_dec (dk_dreturn g0 e)
  | dsub  =>
    match l, hl, h with
    | [], _, h => exact Bool.noConfusion (show false = true from h)
    | b0 :: _, hl, h =>
      have g0 := ck_g hl 0
      have h : (b0.toNat == 103 && n == 1) = true := h
      simp only [Bool.and_eq_true, beq_iff_eq, decide_eq_true_eq] at h
      obtain ⟨e, rfl⟩ := h
      exact dk_dec (dk_dsub g0 e)
  | dup  =>
    match l, hl, h with
    | [], _, h => exact Bool.noConfusion (show false = true from h)
    | b0 :: _, hl, h =>
      have g0 := ck_g hl 0
      have h : (b0.toNat == 89 && n == 1) = true := h
      simp only [Bool.and_eq_true, beq_iff_eq, decide_eq_true_eq] at h
      obtain ⟨e, rfl⟩ := h
      exact dk_dec (dk_dup g0 e)
  | dup2  =>
    match l, hl, h with
    | [], _, h => exact Bool.noConfusion (show false = true from h)
    | b0 :: _, hl, h =>
      have g0 := ck_g hl 0
      have h : (b0.toNat == 92 && n == 1) = true := h
      simp only [Bool.and_eq_true, beq_iff_eq, decide_eq_true_eq] at h
      obtain ⟨e, rfl⟩ := h
      exact dk_dec (dk_dup2 g0 e)
  | dup_x1  =>
    match l, hl, h with
    | [], _, h => exact Bool.noConfusion (show false = true from h)
    | b0 :: _, hl, h =>
      have g0 := ck_g hl 0
      have h : (b0.toNat == 90 && n == 1) = true := h
      simp only [Bool.and_eq_true, beq_iff_eq, decide_eq_true_eq] at h
      obtain ⟨e, rfl⟩ := h
      exact dk_dec (dk_dup_x1 g0 e)
  | i2b  =>
    match l, hl, h with
    | [], _, h => exact Bool.noConfusion (show false = true from h)
    | b0 :: _, hl, h =>
      have g0 := ck_g hl 0
      have h : (b0.toNat == 145 && n == 1) = true := h
      simp only [Bool.and_eq_true, beq_iff_eq, decide_eq_true_eq] at h
      obtain ⟨e, rfl⟩ := h
      exact dk_dec (dk_i2b g0 e)
  | i2c  =>
    match l, hl, h with
    | [], _, h => exact Bool.noConfusion (show false = true from h)
    | b0 :: _, hl, h =>
      have g0 := ck_g hl 0
      have h : (b0.toNat == 146 && n == 1) = true := h
      simp only [Bool.and_eq_true, beq_iff_eq, decide_eq_true_eq] at h
      obtain ⟨e, rfl⟩ := h
      exact dk_dec (dk_i2c g0 e)
  | i2d  =>
    match l, hl, h with
    | [], _, h => exact Bool.noConfusion (show false = true from h)
    | b0 :: _, hl, h =>
      have g0 := ck_g hl 0
      have h : (b0.toNat == 135 && n == 1) = true := h
      simp only [Bool.and_eq_true, beq_iff_eq, decide_eq_true_eq] at h
      obtain ⟨e, rfl⟩ := h
      exact dk_dec (dk_i2d g0 e)
  | i2l  =>
    match l, hl, h with
    | [], _, h => exact Bool.noConfusion (show false = true from h)
    | b0 :: _, hl, h =>
      have g0 := ck_g hl 0
      have h : (b0.toNat == 133 && n == 1) = true := h
      simp only [Bool.and_eq_true, beq_iff_eq, decide_eq_true_eq] at h
      obtain ⟨e, rfl⟩ := h
      exact dk_dec (dk_i2l g0 e)
  | iadd  =>
    match l, hl, h with
    | [], _, h => exact Bool.noConfusion (show false = true from h)
    | b0 :: _, hl, h =>
      have g0 := ck_g hl 0
      have h : (b0.toNat == 96 && n == 1) = true := h
      simp only [Bool.and_eq_true, beq_iff_eq, decide_eq_true_eq] at h
      obtain ⟨e, rfl⟩ := h
      exact dk_dec (dk_iadd g0 e)
  | iaload  =>
    match l, hl, h with
    | [], _, h => exact Bool.noConfusion (show false = true from h)
    | b0 :: _, hl, h =>
      have g0 := ck_g hl 0
      have h : (b0.toNat == 46 && n == 1) = true := h
      simp only [Bool.and_eq_true, beq_iff_eq, decide_eq_true_eq] at h
      obtain ⟨e, rfl⟩ := h
      exact dk_dec (dk_iaload g0 e)
  | iand  =>
    match l, hl, h with
    | [], _, h => exact Bool.noConfusion (show false = true from h)
    | b0 :: _, hl, h =>
      have g0 := ck_g hl 0
      have h : (b0.toNat == 126 && n == 1) = true := h
      simp only [Bool.and_eq_true, beq_iff_eq, decide_eq_true_eq] at h
      obtain ⟨e, rfl⟩ := h
      exact dk_dec (dk_iand g0 e)
  | iastore  =>
    match l, hl, h with
    | [], _, h => exact Bool.noConfusion (show false = true from h)
    | b0 :: _, hl, h =>
      have g0 := ck_g hl 0
      have h : (b0.toNat == 79 && n == 1) = true := h
      simp only [Bool.and_eq_true, beq_iff_eq, decide_eq_true_eq] at h
      obtain ⟨e, rfl⟩ := h
      exact dk_dec (dk_iastore g0 e)
  | idiv  =>
    match l, hl, h with
    | [], _, h => exact Bool.noConfusion (show false = true from h)
    | b0 :: _, hl, h =>
      have g0 := ck_g hl 0
      have h : (b0.toNat == 108 && n == 1) = true := h
      simp only [Bool.and_eq_true, beq_iff_eq, decide_eq_true_eq] at h
      obtain ⟨e, rfl⟩ := h
      exact dk_dec (dk_idiv g0 e)
  | imul  =>
    match l, hl, h with
    | [], _, h => exact Bool.noConfusion (show false = true from h)
    | b0 :: _, hl, h =>
      have g0 := ck_g hl 0
      have h : (b0.toNat == 104 && n == 1) = true := h
      simp only [Bool.and_eq_true, beq_iff_eq, decide_eq_true_eq] at h
      obtain ⟨e, rfl⟩ := h
      exact dk_dec (dk_imul g0 e)
  | ineg  =>
    match l, hl, h with
    | [], _, h => exact Bool.noConfusion (show false = true from h)
    | b0 :: _, hl, h =>
      have g0 := ck_g hl 0
      have h : (b0.toNat == 116 && n == 1) = true := h
      simp only [Bool.and_eq_true, beq_iff_eq, decide_eq_true_eq] at h
      obtain ⟨e, rfl⟩ := h
      exact dk_dec (dk_ineg g0 e)
  | ior  =>
    match l, hl, h with
    | [], _, h => exact Bool.noConfusion (show false = true from h)
    | b0 :: _, hl, h =>
      have g0 := ck_g hl 0
      have h : (b0.toNat == 128 && n == 1) = true := h
      simp only [Bool.and_eq_true, beq_iff_eq, decide_eq_true_eq] at h
      obtain ⟨e, rfl⟩ := h
      exact dk_dec (dk_ior g0 e)
  | irem  =>
    match l, hl, h with
    | [], _, h => exact Bool.noConfusion (show false = true from h)
    | b0 :: _, hl, h =>
      have g0 := ck_g hl 0
      have h : (b0.toNat == 112 && n == 1) = true := h
      simp only [Bool.and_eq_true, beq_iff_eq, decide_eq_true_eq] at h
      obtain ⟨e, rfl⟩ := h
      exact dk_dec (dk_irem g0 e)
  | ireturn  =>
    match l, hl, h with
    | [], _, h => exact Bool.noConfusion (show false = true from h)
    | b0 :: _, hl, h =>
      have g0 := ck_g hl 0
      have h : (b0.toNat == 172 && n == 1) = true := h
      simp only [Bool.and_eq_true, beq_iff_eq, decide_eq_true_eq] at h
      obtain ⟨e, rfl⟩ := h
      exact dk_dec (dk_ireturn g0 e)
  | ishl  =>
    match l, hl, h with
    | [], _, h => exact Bool.noConfusion (show false = true from h)
    | b0 :: _, hl, h =>
      have g0 := ck_g hl 0
      have h : (b0.toNat == 120 && n == 1) = true := h
      simp only [Bool.and_eq_true, beq_iff_eq, decide_eq_true_eq] at h
      obtain ⟨e, rfl⟩ := h
      exact dk_dec (dk_ishl g0 e)
  | ishr  =>
    match l, hl, h with
    | [], _, h => exact Bool.noConfusion (show false = true from h)
    | b0 :: _, hl, h =>
      have g0 := ck_g hl 0
      have h : (b0.toNat == 122 && n == 1) = true := h
      simp only [Bool.and_eq_true, beq_iff_eq, decide_eq_true_eq] at h
      obtain ⟨e, rfl⟩ := h
      exact dk_dec (dk_ishr g0 e)
  | isub  =>
    match l, hl, h with
    | [], _, h => exact Bool.noConfusion (show false = true from h)
    | b0 :: _, hl, h =>
      have g0 := ck_g hl 0
      have h : (b0.toNat == 100 && n == 1) = true := h
      simp only [Bool.and_eq_true, beq_iff_eq, decide_eq_true_eq] at h
      obtain ⟨e, rfl⟩ := h
      exact dk_dec (dk_isub g0 e)
  | iushr  =>
    match l, hl, h with
    | [], _, h => exact Bool.noConfusion (show false = true from h)
    | b0 :: _, hl, h =>
      have g0 := ck_g hl 0
      have h : (b0.toNat == 124 && n == 1) = true := h
      simp only [Bool.and_eq_true, beq_iff_eq, decide_eq_true_eq] at h
      obtain ⟨e, rfl⟩ := h
      exact dk_dec (dk_iushr g0 e)
  | ixor  =>
    match l, hl, h with
    | [], _, h => exact Bool.noConfusion (show false = true from h)
    | b0 :: _, hl, h =>
      have g0 := ck_g hl 0
      have h : (b0.toNat == 130 && n == 1) = true := h
      simp only [Bool.and_eq_true, beq_iff_eq, decide_eq_true_eq] at h
      obtain ⟨e, rfl⟩ := h
      exact dk_dec (dk_ixor g0 e)
  | ladd  =>
    match l, hl, h with
    | [], _, h => exact Bool.noConfusion (show false = true from h)
    | b0 :: _, hl, h =>
      have g0 := ck_g hl 0
      have h : (b0.toNat == 97 && n == 1) = true := h
      simp only [Bool.and_eq_true, beq_iff_eq, decide_eq_true_eq] at h
      obtain ⟨e, rfl⟩ := h
      exact dk_dec (dk_ladd g0 e)
  | laload  =>
    match l, hl, h with
    | [], _, h => exact Bool.noConfusion (show false = true from h)
    | b0 :: _, hl, h =>
      have g0 := ck_g hl 0
      have h : (b0.toNat == 47 && n == 1) = true := h
      simp only [Bool.and_eq_true, beq_iff_eq, decide_eq_true_eq] at h
      obtain ⟨e, rfl⟩ := h
      exact dk_dec (dk_laload g0 e)
  | lastore  =>
    match l, hl, h with
    | [], _, h => exact Bool.noConfusion (show false = true from h)
    | b0 :: _, hl, h =>
      have g0 := ck_g hl 0
      have h : (b0.toNat == 80 && n == 1) = true := h
      simp only [Bool.and_eq_true, beq_iff_eq, decide_eq_true_eq] at h
      obtain ⟨e, rfl⟩ := h
      exact dk_dec (dk_lastore g0 e)
  | lcmp  =>
    match l, hl, h with
    | [], _, h => exact Bool.noConfusion (show false = true from h)
    | b0 :: _, hl, h =>
      have g0 := ck_g hl 0
      have h : (b0.toNat == 148 && n == 1) = true := h
      simp only [Bool.and_eq_true, beq_iff_eq, decide_eq_true_eq] at h
      obtain ⟨e, rfl⟩ := h
      exact dk_dec (dk_lcmp g0 e)
  | lreturn  =>
    match l, hl, h with
    | [], _, h => exact Bool.noConfusion (show false = true from h)
    | b0 :: _, hl, h =>
      have g0 := ck_g hl 0
      have h : (b0.toNat == 173 && n == 1) = true := h
      simp only [Bool.and_eq_true, beq_iff_eq, decide_eq_true_eq] at h
      obtain ⟨e, rfl⟩ := h
      exact dk_dec (dk_lreturn g0 e)
  | pop  =>
    match l, hl, h with
    | [], _, h => exact Bool.noConfusion (show false = true from h)
    | b0 :: _, hl, h =>
      have g0 := ck_g hl 0
      have h : (b0.toNat == 87 && n == 1) = true := h
      simp only [Bool.and_eq_true, beq_iff_eq, decide_eq_true_eq] at h
      obtain ⟨e, rfl⟩ := h
      exact dk_dec (dk_pop g0 e)
  | pop2  =>
    match l, hl, h with
    | [], _, h => exact Bool.noConfusion (show false = true from h)
    | b0 :: _, hl, h =>
      have g0 := ck_g hl 0
      have h : (b0.toNat == 88 && n == 1) = true := h
      simp only [Bool.and_eq_true, beq_iff_eq, decide_eq_true_eq] at h
      obtain ⟨e, rfl⟩ := h
      exact dk_dec (dk_pop2 g0 e)
  | return_  =>
    match l, hl, h with
    | [], _, h => exact Bool.noConfusion (show false = true from h)
    | b0 :: _, hl, h =>
      have g0 := ck_g hl 0
      have h : (b0.toNat == 177 && n == 1) = true := h
      simp only [Bool.and_eq_true, beq_iff_eq, decide_eq_true_eq] at h
      obtain ⟨e, rfl⟩ := h
      exact dk_dec (dk_return_ g0 e)
  | aload_n k =>
    match l, hl, h with
    | [], _, h => exact Bool.noConfusion (show false = true from h)
    | b0 :: _, hl, h =>
      have g0 := ck_g hl 0
      have h : (b0.toNat == 42 + k.val && n == 1) = true := h
      simp only [Bool.and_eq_true, beq_iff_eq, decide_eq_true_eq] at h
      obtain ⟨e, rfl⟩ := h
      match k, e with
      | 0, e => exact dk_dec (dk_aload_n0 g0 e)
      | 1, e => exact dk_dec (dk_aload_n1 g0 e)
      | 2, e => exact dk_dec (dk_aload_n2 g0 e)
      | 3, e => exact dk_dec (dk_aload_n3 g0 e)
  | astore_n k =>
    match l, hl, h with
    | [], _, h => exact Bool.noConfusion (show false = true from h)
    | b0 :: _, hl, h =>
      have g0 := ck_g hl 0
      have h : (b0.toNat == 75 + k.val && n == 1) = true := h
      simp only [Bool.and_eq_true, beq_iff_eq, decide_eq_true_eq] at h
      obtain ⟨e, rfl⟩ := h
      match k, e with
      | 0, e => exact dk_dec (dk_astore_n0 g0 e)
      | 1, e => exact dk_dec (dk_astore_n1 g0 e)
      | 2, e => exact dk_dec (dk_astore_n2 g0 e)
      | 3, e => exact dk_dec (dk_astore_n3 g0 e)
  | dconst k =>
    match l, hl, h with
    | [], _, h => exact Bool.noConfusion (show false = true from h)
    | b0 :: _, hl, h =>
      have g0 := ck_g hl 0
      have h : (b0.toNat == 14 + k.val && n == 1) = true := h
      simp only [Bool.and_eq_true, beq_iff_eq, decide_eq_true_eq] at h
      obtain ⟨e, rfl⟩ := h
      match k, e with
      | 0, e => exact dk_dec (dk_dconst0 g0 e)
      | 1, e => exact dk_dec (dk_dconst1 g0 e)
  | dload_n k =>
    match l, hl, h with
    | [], _, h => exact Bool.noConfusion (show false = true from h)
    | b0 :: _, hl, h =>
      have g0 := ck_g hl 0
      have h : (b0.toNat == 38 + k.val && n == 1) = true := h
      simp only [Bool.and_eq_true, beq_iff_eq, decide_eq_true_eq] at h
      obtain ⟨e, rfl⟩ := h
      match k, e with
      | 0, e => exact dk_dec (dk_dload_n0 g0 e)
      | 1, e => exact dk_dec (dk_dload_n1 g0 e)
      | 2, e => exact dk_dec (dk_dload_n2 g0 e)
      | 3, e => exact dk_dec (dk_dload_n3 g0 e)
  | dstore_n k =>
    match l, hl, h with
    | [], _, h => exact Bool.noConfusion (show false = true from h)
    | b0 :: _, hl, h =>
      have g0 := ck_g hl 0
      have h : (b0.toNat == 71 + k.val && n == 1) = true := h
      simp only [Bool.and_eq_true, beq_iff_eq, decide_eq_true_eq] at h
      obtain ⟨e, rfl⟩ := h
      match k, e with
      | 0, e => exact dk_dec (dk_dstore_n0 g0 e)
      | 1, e => exact dk_dec (dk_dstore_n1 g0 e)
      | 2, e => exact dk_dec (dk_dstore_n2 g0 e)
      | 3, e => exact dk_dec (dk_dstore_n3 g0 e)
  | iload_n k =>
    match l, hl, h with
    | [], _, h => exact Bool.noConfusion (show false = true from h)
    | b0 :: _, hl, h =>
      have g0 := ck_g hl 0
      have h : (b0.toNat == 26 + k.val && n == 1) = true := h
      simp only [Bool.and_eq_true, beq_iff_eq, decide_eq_true_eq] at h
      obtain ⟨e, rfl⟩ := h
      match k, e with
      | 0, e => exact dk_dec (dk_iload_n0 g0 e)
      | 1, e => exact dk_dec (dk_iload_n1 g0 e)
      | 2, e => exact dk_dec (dk_iload_n2 g0 e)
      | 3, e => exact dk_dec (dk_iload_n3 g0 e)
  | istore_n k =>
    match l, hl, h with
    | [], _, h => exact Bool.noConfusion (show false = true from h)
    | b0 :: _, hl, h =>
      have g0 := ck_g hl 0
      have h : (b0.toNat == 59 + k.val && n == 1) = true := h
      simp only [Bool.and_eq_true, beq_iff_eq, decide_eq_true_eq] at h
      obtain ⟨e, rfl⟩ := h
      match k, e with
      | 0, e => exact dk_dec (dk_istore_n0 g0 e)
      | 1, e => exact dk_dec (dk_istore_n1 g0 e)
      | 2, e => exact dk_dec (dk_istore_n2 g0 e)
      | 3, e => exact dk_dec (dk_istore_n3 g0 e)
  | lconst k =>
    match l, hl, h with
    | [], _, h => exact Bool.noConfusion (show false = true from h)
    | b0 :: _, hl, h =>
      have g0 := ck_g hl 0
      have h : (b0.toNat == 9 + k.val && n == 1) = true := h
      simp only [Bool.and_eq_true, beq_iff_eq, decide_eq_true_eq] at h
      obtain ⟨e, rfl⟩ := h
      match k, e with
      | 0, e => exact dk_dec (dk_lconst0 g0 e)
      | 1, e => exact dk_dec (dk_lconst1 g0 e)
  | lload_n k =>
    match l, hl, h with
    | [], _, h => exact Bool.noConfusion (show false = true from h)
    | b0 :: _, hl, h =>
      have g0 := ck_g hl 0
      have h : (b0.toNat == 30 + k.val && n == 1) = true := h
      simp only [Bool.and_eq_true, beq_iff_eq, decide_eq_true_eq] at h
      obtain ⟨e, rfl⟩ := h
      match k, e with
      | 0, e => exact dk_dec (dk_lload_n0 g0 e)
      | 1, e => exact dk_dec (dk_lload_n1 g0 e)
      | 2, e => exact dk_dec (dk_lload_n2 g0 e)
      | 3, e => exact dk_dec (dk_lload_n3 g0 e)
  | aload k =>
    match l, hl, h with
    | [], _, h => exact Bool.noConfusion (show false = true from h)
    | [_], _, h => exact Bool.noConfusion (show false = true from h)
    | b0 :: b1 :: _, hl, h =>
      have g0 := ck_g hl 0
      have g1 := ck_g hl 1
      have h : (b0.toNat == 25 && b1.toNat == k && n == 2) = true := h
      simp only [Bool.and_eq_true, beq_iff_eq, decide_eq_true_eq] at h
      obtain ⟨⟨e, rfl⟩, rfl⟩ := h
      exact dk_dec (dk_aload g0 g1 e)
  | astore k =>
    match l, hl, h with
    | [], _, h => exact Bool.noConfusion (show false = true from h)
    | [_], _, h => exact Bool.noConfusion (show false = true from h)
    | b0 :: b1 :: _, hl, h =>
      have g0 := ck_g hl 0
      have g1 := ck_g hl 1
      have h : (b0.toNat == 58 && b1.toNat == k && n == 2) = true := h
      simp only [Bool.and_eq_true, beq_iff_eq, decide_eq_true_eq] at h
      obtain ⟨⟨e, rfl⟩, rfl⟩ := h
      exact dk_dec (dk_astore g0 g1 e)
  | dload k =>
    match l, hl, h with
    | [], _, h => exact Bool.noConfusion (show false = true from h)
    | [_], _, h => exact Bool.noConfusion (show false = true from h)
    | b0 :: b1 :: _, hl, h =>
      have g0 := ck_g hl 0
      have g1 := ck_g hl 1
      have h : (b0.toNat == 24 && b1.toNat == k && n == 2) = true := h
      simp only [Bool.and_eq_true, beq_iff_eq, decide_eq_true_eq] at h
      obtain ⟨⟨e, rfl⟩, rfl⟩ := h
      exact dk_dec (dk_dload g0 g1 e)
  | dstore k =>
    match l, hl, h with
    | [], _, h => exact Bool.noConfusion (show false = true from h)
    | [_], _, h => exact Bool.noConfusion (show false = true from h)
    | b0 :: b1 :: _, hl, h =>
      have g0 := ck_g hl 0
      have g1 := ck_g hl 1
      have h : (b0.toNat == 57 && b1.toNat == k && n == 2) = true := h
      simp only [Bool.and_eq_true, beq_iff_eq, decide_eq_true_eq] at h
      obtain ⟨⟨e, rfl⟩, rfl⟩ := h
      exact dk_dec (dk_dstore g0 g1 e)
  | iload k =>
    match l, hl, h with
    | [], _, h => exact Bool.noConfusion (show false = true from h)
    | [_], _, h => exact Bool.noConfusion (show false = true from h)
    | b0 :: b1 :: _, hl, h =>
      have g0 := ck_g hl 0
      have g1 := ck_g hl 1
      have h : (b0.toNat == 21 && b1.toNat == k && n == 2) = true := h
      simp only [Bool.and_eq_true, beq_iff_eq, decide_eq_true_eq] at h
      obtain ⟨⟨e, rfl⟩, rfl⟩ := h
      exact dk_dec (dk_iload g0 g1 e)
  | istore k =>
    match l, hl, h with
    | [], _, h => exact Bool.noConfusion (show false = true from h)
    | [_], _, h => exact Bool.noConfusion (show false = true from h)
    | b0 :: b1 :: _, hl, h =>
      have g0 := ck_g hl 0
      have g1 := ck_g hl 1
      have h : (b0.toNat == 54 && b1.toNat == k && n == 2) = true := h
      simp only [Bool.and_eq_true, beq_iff_eq, decide_eq_true_eq] at h
      obtain ⟨⟨e, rfl⟩, rfl⟩ := h
      exact dk_dec (dk_istore g0 g1 e)
  | ldc k =>
    match l, hl, h with
    | [], _, h => exact Bool.noConfusion (show false = true from h)
    | [_], _, h => exact Bool.noConfusion (show false = true from h)
    | b0 :: b1 :: _, hl, h =>
      have g0 := ck_g hl 0
      have g1 := ck_g hl 1
      have h : (b0.toNat == 18 && b1.toNat == k && n == 2) = true := h
      simp only [Bool.and_eq_true, beq_iff_eq, decide_eq_true_eq] at h
      obtain ⟨⟨e, rfl⟩, rfl⟩ := h
      exact dk_dec (dk_ldc g0 g1 e)
  | lload k =>
    match l, hl, h with
    | [], _, h => exact Bool.noConfusion (show false = true from h)
    | [_], _, h => exact Bool.noConfusion (show false = true from h)
    | b0 :: b1 :: _, hl, h =>
      have g0 := ck_g hl 0
      have g1 := ck_g hl 1
      have h : (b0.toNat == 22 && b1.toNat == k && n == 2) = true := h
      simp only [Bool.and_eq_true, beq_iff_eq, decide_eq_true_eq] at h
      obtain ⟨⟨e, rfl⟩, rfl⟩ := h
      exact dk_dec (dk_lload g0 g1 e)
  | lstore k =>
    match l, hl, h with
    | [], _, h => exact Bool.noConfusion (show false = true from h)
    | [_], _, h => exact Bool.noConfusion (show false = true from h)
    | b0 :: b1 :: _, hl, h =>
      have g0 := ck_g hl 0
      have g1 := ck_g hl 1
      have h : (b0.toNat == 55 && b1.toNat == k && n == 2) = true := h
      simp only [Bool.and_eq_true, beq_iff_eq, decide_eq_true_eq] at h
      obtain ⟨⟨e, rfl⟩, rfl⟩ := h
      exact dk_dec (dk_lstore g0 g1 e)
  | bipush k =>
    match l, hl, h with
    | [], _, h => exact Bool.noConfusion (show false = true from h)
    | [_], _, h => exact Bool.noConfusion (show false = true from h)
    | b0 :: b1 :: _, hl, h =>
      have g0 := ck_g hl 0
      have g1 := ck_g hl 1
      have h : (b0.toNat == 16 && Reader.signed 8 b1.toNat == k && n == 2) = true := h
      simp only [Bool.and_eq_true, beq_iff_eq, decide_eq_true_eq] at h
      obtain ⟨⟨e, rfl⟩, rfl⟩ := h
      exact dk_dec (dk_bipush g0 g1 e)
  | anewarray k =>
    match l, hl, h with
    | [], _, h => exact Bool.noConfusion (show false = true from h)
    | [_], _, h => exact Bool.noConfusion (show false = true from h)
    | [_, _], _, h => exact Bool.noConfusion (show false = true from h)
    | b0 :: b1 :: b2 :: _, hl, h =>
      have g0 := ck_g hl 0
      have g1 := ck_g hl 1
      have g2 := ck_g hl 2
      have h : (b0.toNat == 189 && b1.toNat * 256 + b2.toNat == k && n == 3) = true := h
      simp only [Bool.and_eq_true, beq_iff_eq, decide_eq_true_eq] at h
      obtain ⟨⟨e, rfl⟩, rfl⟩ := h
      exact dk_dec (dk_anewarray g0 g1 g2 e)
  | checkcast k =>
    match l, hl, h with
    | [], _, h => exact Bool.noConfusion (show false = true from h)
    | [_], _, h => exact Bool.noConfusion (show false = true from h)
    | [_, _], _, h => exact Bool.noConfusion (show false = true from h)
    | b0 :: b1 :: b2 :: _, hl, h =>
      have g0 := ck_g hl 0
      have g1 := ck_g hl 1
      have g2 := ck_g hl 2
      have h : (b0.toNat == 192 && b1.toNat * 256 + b2.toNat == k && n == 3) = true := h
      simp only [Bool.and_eq_true, beq_iff_eq, decide_eq_true_eq] at h
      obtain ⟨⟨e, rfl⟩, rfl⟩ := h
      exact dk_dec (dk_checkcast g0 g1 g2 e)
  | getfield k =>
    match l, hl, h with
    | [], _, h => exact Bool.noConfusion (show false = true from h)
    | [_], _, h => exact Bool.noConfusion (show false = true from h)
    | [_, _], _, h => exact Bool.noConfusion (show false = true from h)
    | b0 :: b1 :: b2 :: _, hl, h =>
      have g0 := ck_g hl 0
      have g1 := ck_g hl 1
      have g2 := ck_g hl 2
      have h : (b0.toNat == 180 && b1.toNat * 256 + b2.toNat == k && n == 3) = true := h
      simp only [Bool.and_eq_true, beq_iff_eq, decide_eq_true_eq] at h
      obtain ⟨⟨e, rfl⟩, rfl⟩ := h
      exact dk_dec (dk_getfield g0 g1 g2 e)
  | getstatic k =>
    match l, hl, h with
    | [], _, h => exact Bool.noConfusion (show false = true from h)
    | [_], _, h => exact Bool.noConfusion (show false = true from h)
    | [_, _], _, h => exact Bool.noConfusion (show false = true from h)
    | b0 :: b1 :: b2 :: _, hl, h =>
      have g0 := ck_g hl 0
      have g1 := ck_g hl 1
      have g2 := ck_g hl 2
      have h : (b0.toNat == 178 && b1.toNat * 256 + b2.toNat == k && n == 3) = true := h
      simp only [Bool.and_eq_true, beq_iff_eq, decide_eq_true_eq] at h
      obtain ⟨⟨e, rfl⟩, rfl⟩ := h
      exact dk_dec (dk_getstatic g0 g1 g2 e)
  | invokespecial k =>
    match l, hl, h with
    | [], _, h => exact Bool.noConfusion (show false = true from h)
    | [_], _, h => exact Bool.noConfusion (show false = true from h)
    | [_, _], _, h => exact Bool.noConfusion (show false = true from h)
    | b0 :: b1 :: b2 :: _, hl, h =>
      have g0 := ck_g hl 0
      have g1 := ck_g hl 1
      have g2 := ck_g hl 2
      have h : (b0.toNat == 183 && b1.toNat * 256 + b2.toNat == k && n == 3) = true := h
      simp only [Bool.and_eq_true, beq_iff_eq, decide_eq_true_eq] at h
      obtain ⟨⟨e, rfl⟩, rfl⟩ := h
      exact dk_dec (dk_invokespecial g0 g1 g2 e)
  | invokestatic k =>
    match l, hl, h with
    | [], _, h => exact Bool.noConfusion (show false = true from h)
    | [_], _, h => exact Bool.noConfusion (show false = true from h)
    | [_, _], _, h => exact Bool.noConfusion (show false = true from h)
    | b0 :: b1 :: b2 :: _, hl, h =>
      have g0 := ck_g hl 0
      have g1 := ck_g hl 1
      have g2 := ck_g hl 2
      have h : (b0.toNat == 184 && b1.toNat * 256 + b2.toNat == k && n == 3) = true := h
      simp only [Bool.and_eq_true, beq_iff_eq, decide_eq_true_eq] at h
      obtain ⟨⟨e, rfl⟩, rfl⟩ := h
      exact dk_dec (dk_invokestatic g0 g1 g2 e)
  | invokevirtual k =>
    match l, hl, h with
    | [], _, h => exact Bool.noConfusion (show false = true from h)
    | [_], _, h => exact Bool.noConfusion (show false = true from h)
    | [_, _], _, h => exact Bool.noConfusion (show false = true from h)
    | b0 :: b1 :: b2 :: _, hl, h =>
      have g0 := ck_g hl 0
      have g1 := ck_g hl 1
      have g2 := ck_g hl 2
      have h : (b0.toNat == 182 && b1.toNat * 256 + b2.toNat == k && n == 3) = true := h
      simp only [Bool.and_eq_true, beq_iff_eq, decide_eq_true_eq] at h
      obtain ⟨⟨e, rfl⟩, rfl⟩ := h
      exact dk_dec (dk_invokevirtual g0 g1 g2 e)
  | ldc2_w k =>
    match l, hl, h with
    | [], _, h => exact Bool.noConfusion (show false = true from h)
    | [_], _, h => exact Bool.noConfusion (show false = true from h)
    | [_, _], _, h => exact Bool.noConfusion (show false = true from h)
    | b0 :: b1 :: b2 :: _, hl, h =>
      have g0 := ck_g hl 0
      have g1 := ck_g hl 1
      have g2 := ck_g hl 2
      have h : (b0.toNat == 20 && b1.toNat * 256 + b2.toNat == k && n == 3) = true := h
      simp only [Bool.and_eq_true, beq_iff_eq, decide_eq_true_eq] at h
      obtain ⟨⟨e, rfl⟩, rfl⟩ := h
      exact dk_dec (dk_ldc2_w g0 g1 g2 e)
  | ldc_w k =>
    match l, hl, h with
    | [], _, h => exact Bool.noConfusion (show false = true from h)
    | [_], _, h => exact Bool.noConfusion (show false = true from h)
    | [_, _], _, h => exact Bool.noConfusion (show false = true from h)
    | b0 :: b1 :: b2 :: _, hl, h =>
      have g0 := ck_g hl 0
      have g1 := ck_g hl 1
      have g2 := ck_g hl 2
      have h : (b0.toNat == 19 && b1.toNat * 256 + b2.toNat == k && n == 3) = true := h
      simp only [Bool.and_eq_true, beq_iff_eq, decide_eq_true_eq] at h
      obtain ⟨⟨e, rfl⟩, rfl⟩ := h
      exact dk_dec (dk_ldc_w g0 g1 g2 e)
  | new k =>
    match l, hl, h with
    | [], _, h => exact Bool.noConfusion (show false = true from h)
    | [_], _, h => exact Bool.noConfusion (show false = true from h)
    | [_, _], _, h => exact Bool.noConfusion (show false = true from h)
    | b0 :: b1 :: b2 :: _, hl, h =>
      have g0 := ck_g hl 0
      have g1 := ck_g hl 1
      have g2 := ck_g hl 2
      have h : (b0.toNat == 187 && b1.toNat * 256 + b2.toNat == k && n == 3) = true := h
      simp only [Bool.and_eq_true, beq_iff_eq, decide_eq_true_eq] at h
      obtain ⟨⟨e, rfl⟩, rfl⟩ := h
      exact dk_dec (dk_new g0 g1 g2 e)
  | putfield k =>
    match l, hl, h with
    | [], _, h => exact Bool.noConfusion (show false = true from h)
    | [_], _, h => exact Bool.noConfusion (show false = true from h)
    | [_, _], _, h => exact Bool.noConfusion (show false = true from h)
    | b0 :: b1 :: b2 :: _, hl, h =>
      have g0 := ck_g hl 0
      have g1 := ck_g hl 1
      have g2 := ck_g hl 2
      have h : (b0.toNat == 181 && b1.toNat * 256 + b2.toNat == k && n == 3) = true := h
      simp only [Bool.and_eq_true, beq_iff_eq, decide_eq_true_eq] at h
      obtain ⟨⟨e, rfl⟩, rfl⟩ := h
      exact dk_dec (dk_putfield g0 g1 g2 e)
  | goto k =>
    match l, hl, h with
    | [], _, h => exact Bool.noConfusion (show false = true from h)
    | [_], _, h => exact Bool.noConfusion (show false = true from h)
    | [_, _], _, h => exact Bool.noConfusion (show false = true from h)
    | b0 :: b1 :: b2 :: _, hl, h =>
      have g0 := ck_g hl 0
      have g1 := ck_g hl 1
      have g2 := ck_g hl 2
      have h : (b0.toNat == 167 && Reader.signed 16 (b1.toNat * 256 + b2.toNat) == k && n == 3) = true := h
      simp only [Bool.and_eq_true, beq_iff_eq, decide_eq_true_eq] at h
      obtain ⟨⟨e, rfl⟩, rfl⟩ := h
      exact dk_dec (dk_goto g0 g1 g2 e)
  | ifnonnull k =>
    match l, hl, h with
    | [], _, h => exact Bool.noConfusion (show false = true from h)
    | [_], _, h => exact Bool.noConfusion (show false = true from h)
    | [_, _], _, h => exact Bool.noConfusion (show false = true from h)
    | b0 :: b1 :: b2 :: _, hl, h =>
      have g0 := ck_g hl 0
      have g1 := ck_g hl 1
      have g2 := ck_g hl 2
      have h : (b0.toNat == 199 && Reader.signed 16 (b1.toNat * 256 + b2.toNat) == k && n == 3) = true := h
      simp only [Bool.and_eq_true, beq_iff_eq, decide_eq_true_eq] at h
      obtain ⟨⟨e, rfl⟩, rfl⟩ := h
      exact dk_dec (dk_ifnonnull g0 g1 g2 e)
  | ifnull k =>
    match l, hl, h with
    | [], _, h => exact Bool.noConfusion (show false = true from h)
    | [_], _, h => exact Bool.noConfusion (show false = true from h)
    | [_, _], _, h => exact Bool.noConfusion (show false = true from h)
    | b0 :: b1 :: b2 :: _, hl, h =>
      have g0 := ck_g hl 0
      have g1 := ck_g hl 1
      have g2 := ck_g hl 2
      have h : (b0.toNat == 198 && Reader.signed 16 (b1.toNat * 256 + b2.toNat) == k && n == 3) = true := h
      simp only [Bool.and_eq_true, beq_iff_eq, decide_eq_true_eq] at h
      obtain ⟨⟨e, rfl⟩, rfl⟩ := h
      exact dk_dec (dk_ifnull g0 g1 g2 e)
  | sipush k =>
    match l, hl, h with
    | [], _, h => exact Bool.noConfusion (show false = true from h)
    | [_], _, h => exact Bool.noConfusion (show false = true from h)
    | [_, _], _, h => exact Bool.noConfusion (show false = true from h)
    | b0 :: b1 :: b2 :: _, hl, h =>
      have g0 := ck_g hl 0
      have g1 := ck_g hl 1
      have g2 := ck_g hl 2
      have h : (b0.toNat == 17 && Reader.signed 16 (b1.toNat * 256 + b2.toNat) == k && n == 3) = true := h
      simp only [Bool.and_eq_true, beq_iff_eq, decide_eq_true_eq] at h
      obtain ⟨⟨e, rfl⟩, rfl⟩ := h
      exact dk_dec (dk_sipush g0 g1 g2 e)
  | iconst k =>
    match l, hl, h with
    | [], _, h => exact Bool.noConfusion (show false = true from h)
    | b0 :: _, hl, h =>
      have g0 := ck_g hl 0
      have h : ((2 ≤ b0.toNat && b0.toNat ≤ 8) && (b0.toNat : Int) - 3 == k && n == 1) = true := h
      simp only [Bool.and_eq_true, beq_iff_eq, decide_eq_true_eq] at h
      obtain ⟨⟨⟨e1, e2⟩, e3⟩, rfl⟩ := h
      have e4 : b0.toNat = 2 ∨ b0.toNat = 3 ∨ b0.toNat = 4 ∨ b0.toNat = 5 ∨ b0.toNat = 6 ∨ b0.toNat = 7 ∨ b0.toNat = 8 := by omega
      rcases e4 with e | e | e | e | e | e | e <;> rw [e] at e3 <;> subst e3
      · exact dk_dec (dk_iconst0 g0 e)
      · exact dk_dec (dk_iconst1 g0 e)
      · exact dk_dec (dk_iconst2 g0 e)
      · exact dk_dec (dk_iconst3 g0 e)
      · exact dk_dec (dk_iconst4 g0 e)
      · exact dk_dec (dk_iconst5 g0 e)
      · exact dk_dec (dk_iconst6 g0 e)
  | iinc k z =>
    match l, hl, h with
    | [], _, h => exact Bool.noConfusion (show false = true from h)
    | [_], _, h => exact Bool.noConfusion (show false = true from h)
    | [_, _], _, h => exact Bool.noConfusion (show false = true from h)
    | b0 :: b1 :: b2 :: _, hl, h =>
      have g0 := ck_g hl 0
      have g1 := ck_g hl 1
      have g2 := ck_g hl 2
      have h : (b0.toNat == 132 && b1.toNat == k && Reader.signed 8 b2.toNat == z && n == 3) = true := h
      simp only [Bool.and_eq_true, beq_iff_eq, decide_eq_true_eq] at h
      obtain ⟨⟨⟨e, rfl⟩, rfl⟩, rfl⟩ := h
      exact dk_dec (dk_iinc g0 g1 g2 e)
  | ifCond q k =>
    cases q with
    | eq =>
      match l, hl, h with
      | [], _, h => exact Bool.noConfusion (show false = true from h)
      | [_], _, h => exact Bool.noConfusion (show false = true from h)
      | [_, _], _, h => exact Bool.noConfusion (show false = true from h)
      | b0 :: b1 :: b2 :: _, hl, h =>
        have g0 := ck_g hl 0
        have g1 := ck_g hl 1
        have g2 := ck_g hl 2
        have h : (b0.toNat == 153 && Reader.signed 16 (b1.toNat * 256 + b2.toNat) == k && n == 3) = true := h
        simp only [Bool.and_eq_true, beq_iff_eq, decide_eq_true_eq] at h
        obtain ⟨⟨e, rfl⟩, rfl⟩ := h
        exact dk_dec (dk_ifCond_eq g0 g1 g2 e)
    | ne =>
      match l, hl, h with
      | [], _, h => exact Bool.noConfusion (show false = true from h)
      | [_], _, h => exact Bool.noConfusion (show false = true from h)
      | [_, _], _, h => exact Bool.noConfusion (show false = true from h)
      | b0 :: b1 :: b2 :: _, hl, h =>
        have g0 := ck_g hl 0
        have g1 := ck_g hl 1
        have g2 := ck_g hl 2
        have h : (b0.toNat == 154 && Reader.signed 16 (b1.toNat * 256 + b2.toNat) == k && n == 3) = true := h
        simp only [Bool.and_eq_true, beq_iff_eq, decide_eq_true_eq] at h
        obtain ⟨⟨e, rfl⟩, rfl⟩ := h
        exact dk_dec (dk_ifCond_ne g0 g1 g2 e)
    | lt =>
      match l, hl, h with
      | [], _, h => exact Bool.noConfusion (show false = true from h)
      | [_], _, h => exact Bool.noConfusion (show false = true from h)
      | [_, _], _, h => exact Bool.noConfusion (show false = true from h)
      | b0 :: b1 :: b2 :: _, hl, h =>
        have g0 := ck_g hl 0
        have g1 := ck_g hl 1
        have g2 := ck_g hl 2
        have h : (b0.toNat == 155 && Reader.signed 16 (b1.toNat * 256 + b2.toNat) == k && n == 3) = true := h
        simp only [Bool.and_eq_true, beq_iff_eq, decide_eq_true_eq] at h
        obtain ⟨⟨e, rfl⟩, rfl⟩ := h
        exact dk_dec (dk_ifCond_lt g0 g1 g2 e)
    | ge =>
      match l, hl, h with
      | [], _, h => exact Bool.noConfusion (show false = true from h)
      | [_], _, h => exact Bool.noConfusion (show false = true from h)
      | [_, _], _, h => exact Bool.noConfusion (show false = true from h)
      | b0 :: b1 :: b2 :: _, hl, h =>
        have g0 := ck_g hl 0
        have g1 := ck_g hl 1
        have g2 := ck_g hl 2
        have h : (b0.toNat == 156 && Reader.signed 16 (b1.toNat * 256 + b2.toNat) == k && n == 3) = true := h
        simp only [Bool.and_eq_true, beq_iff_eq, decide_eq_true_eq] at h
        obtain ⟨⟨e, rfl⟩, rfl⟩ := h
        exact dk_dec (dk_ifCond_ge g0 g1 g2 e)
    | gt =>
      match l, hl, h with
      | [], _, h => exact Bool.noConfusion (show false = true from h)
      | [_], _, h => exact Bool.noConfusion (show false = true from h)
      | [_, _], _, h => exact Bool.noConfusion (show false = true from h)
      | b0 :: b1 :: b2 :: _, hl, h =>
        have g0 := ck_g hl 0
        have g1 := ck_g hl 1
        have g2 := ck_g hl 2
        have h : (b0.toNat == 157 && Reader.signed 16 (b1.toNat * 256 + b2.toNat) == k && n == 3) = true := h
        simp only [Bool.and_eq_true, beq_iff_eq, decide_eq_true_eq] at h
        obtain ⟨⟨e, rfl⟩, rfl⟩ := h
        exact dk_dec (dk_ifCond_gt g0 g1 g2 e)
    | le =>
      match l, hl, h with
      | [], _, h => exact Bool.noConfusion (show false = true from h)
      | [_], _, h => exact Bool.noConfusion (show false = true from h)
      | [_, _], _, h => exact Bool.noConfusion (show false = true from h)
      | b0 :: b1 :: b2 :: _, hl, h =>
        have g0 := ck_g hl 0
        have g1 := ck_g hl 1
        have g2 := ck_g hl 2
        have h : (b0.toNat == 158 && Reader.signed 16 (b1.toNat * 256 + b2.toNat) == k && n == 3) = true := h
        simp only [Bool.and_eq_true, beq_iff_eq, decide_eq_true_eq] at h
        obtain ⟨⟨e, rfl⟩, rfl⟩ := h
        exact dk_dec (dk_ifCond_le g0 g1 g2 e)
  | if_icmp q k =>
    cases q with
    | eq =>
      match l, hl, h with
      | [], _, h => exact Bool.noConfusion (show false = true from h)
      | [_], _, h => exact Bool.noConfusion (show false = true from h)
      | [_, _], _, h => exact Bool.noConfusion (show false = true from h)
      | b0 :: b1 :: b2 :: _, hl, h =>
        have g0 := ck_g hl 0
        have g1 := ck_g hl 1
        have g2 := ck_g hl 2
        have h : (b0.toNat == 159 && Reader.signed 16 (b1.toNat * 256 + b2.toNat) == k && n == 3) = true := h
        simp only [Bool.and_eq_true, beq_iff_eq, decide_eq_true_eq] at h
        obtain ⟨⟨e, rfl⟩, rfl⟩ := h
        exact dk_dec (dk_if_icmp_eq g0 g1 g2 e)
    | ne =>
      match l, hl, h with
      | [], _, h => exact Bool.noConfusion (show false = true from h)
      | [_], _, h => exact Bool.noConfusion (show false = true from h)
      | [_, _], _, h => exact Bool.noConfusion (show false = true from h)
      | b0 :: b1 :: b2 :: _, hl, h =>
        have g0 := ck_g hl 0
        have g1 := ck_g hl 1
        have g2 := ck_g hl 2
        have h : (b0.toNat == 160 && Reader.signed 16 (b1.toNat * 256 + b2.toNat) == k && n == 3) = true := h
        simp only [Bool.and_eq_true, beq_iff_eq, decide_eq_true_eq] at h
        obtain ⟨⟨e, rfl⟩, rfl⟩ := h
        exact dk_dec (dk_if_icmp_ne g0 g1 g2 e)
    | lt =>
      match l, hl, h with
      | [], _, h => exact Bool.noConfusion (show false = true from h)
      | [_], _, h => exact Bool.noConfusion (show false = true from h)
      | [_, _], _, h => exact Bool.noConfusion (show false = true from h)
      | b0 :: b1 :: b2 :: _, hl, h =>
        have g0 := ck_g hl 0
        have g1 := ck_g hl 1
        have g2 := ck_g hl 2
        have h : (b0.toNat == 161 && Reader.signed 16 (b1.toNat * 256 + b2.toNat) == k && n == 3) = true := h
        simp only [Bool.and_eq_true, beq_iff_eq, decide_eq_true_eq] at h
        obtain ⟨⟨e, rfl⟩, rfl⟩ := h
        exact dk_dec (dk_if_icmp_lt g0 g1 g2 e)
    | ge =>
      match l, hl, h with
      | [], _, h => exact Bool.noConfusion (show false = true from h)
      | [_], _, h => exact Bool.noConfusion (show false = true from h)
      | [_, _], _, h => exact Bool.noConfusion (show false = true from h)
      | b0 :: b1 :: b2 :: _, hl, h =>
        have g0 := ck_g hl 0
        have g1 := ck_g hl 1
        have g2 := ck_g hl 2
        have h : (b0.toNat == 162 && Reader.signed 16 (b1.toNat * 256 + b2.toNat) == k && n == 3) = true := h
        simp only [Bool.and_eq_true, beq_iff_eq, decide_eq_true_eq] at h
        obtain ⟨⟨e, rfl⟩, rfl⟩ := h
        exact dk_dec (dk_if_icmp_ge g0 g1 g2 e)
    | gt =>
      match l, hl, h with
      | [], _, h => exact Bool.noConfusion (show false = true from h)
      | [_], _, h => exact Bool.noConfusion (show false = true from h)
      | [_, _], _, h => exact Bool.noConfusion (show false = true from h)
      | b0 :: b1 :: b2 :: _, hl, h =>
        have g0 := ck_g hl 0
        have g1 := ck_g hl 1
        have g2 := ck_g hl 2
        have h : (b0.toNat == 163 && Reader.signed 16 (b1.toNat * 256 + b2.toNat) == k && n == 3) = true := h
        simp only [Bool.and_eq_true, beq_iff_eq, decide_eq_true_eq] at h
        obtain ⟨⟨e, rfl⟩, rfl⟩ := h
        exact dk_dec (dk_if_icmp_gt g0 g1 g2 e)
    | le =>
      match l, hl, h with
      | [], _, h => exact Bool.noConfusion (show false = true from h)
      | [_], _, h => exact Bool.noConfusion (show false = true from h)
      | [_, _], _, h => exact Bool.noConfusion (show false = true from h)
      | b0 :: b1 :: b2 :: _, hl, h =>
        have g0 := ck_g hl 0
        have g1 := ck_g hl 1
        have g2 := ck_g hl 2
        have h : (b0.toNat == 164 && Reader.signed 16 (b1.toNat * 256 + b2.toNat) == k && n == 3) = true := h
        simp only [Bool.and_eq_true, beq_iff_eq, decide_eq_true_eq] at h
        obtain ⟨⟨e, rfl⟩, rfl⟩ := h
        exact dk_dec (dk_if_icmp_le g0 g1 g2 e)
  | if_acmp q k =>
    cases q with
    | eq =>
      match l, hl, h with
      | [], _, h => exact Bool.noConfusion (show false = true from h)
      | [_], _, h => exact Bool.noConfusion (show false = true from h)
      | [_, _], _, h => exact Bool.noConfusion (show false = true from h)
      | b0 :: b1 :: b2 :: _, hl, h =>
        have g0 := ck_g hl 0
        have g1 := ck_g hl 1
        have g2 := ck_g hl 2
        have h : (b0.toNat == 165 && Reader.signed 16 (b1.toNat * 256 + b2.toNat) == k && n == 3) = true := h
        simp only [Bool.and_eq_true, beq_iff_eq, decide_eq_true_eq] at h
        obtain ⟨⟨e, rfl⟩, rfl⟩ := h
        exact dk_dec (dk_if_acmp_eq g0 g1 g2 e)
    | ne =>
      match l, hl, h with
      | [], _, h => exact Bool.noConfusion (show false = true from h)
      | [_], _, h => exact Bool.noConfusion (show false = true from h)
      | [_, _], _, h => exact Bool.noConfusion (show false = true from h)
      | b0 :: b1 :: b2 :: _, hl, h =>
        have g0 := ck_g hl 0
        have g1 := ck_g hl 1
        have g2 := ck_g hl 2
        have h : (b0.toNat == 166 && Reader.signed 16 (b1.toNat * 256 + b2.toNat) == k && n == 3) = true := h
        simp only [Bool.and_eq_true, beq_iff_eq, decide_eq_true_eq] at h
        obtain ⟨⟨e, rfl⟩, rfl⟩ := h
        exact dk_dec (dk_if_acmp_ne g0 g1 g2 e)
  | dcmp q =>
    cases q with
    | l =>
      match l, hl, h with
      | [], _, h => exact Bool.noConfusion (show false = true from h)
      | b0 :: _, hl, h =>
        have g0 := ck_g hl 0
        have h : (b0.toNat == 151 && n == 1) = true := h
        simp only [Bool.and_eq_true, beq_iff_eq, decide_eq_true_eq] at h
        obtain ⟨e, rfl⟩ := h
        exact dk_dec (dk_dcmp_l g0 e)
    | g =>
      match l, hl, h with
      | [], _, h => exact Bool.noConfusion (show false = true from h)
      | b0 :: _, hl, h =>
        have g0 := ck_g hl 0
        have h : (b0.toNat == 152 && n == 1) = true := h
        simp only [Bool.and_eq_true, beq_iff_eq, decide_eq_true_eq] at h
        obtain ⟨e, rfl⟩ := h
        exact dk_dec (dk_dcmp_g g0 e)
  | _ => exact Bool.noConfusion (show false = true from h)
def dcw : List UInt8 → Nat → List (Nat × Instr × Nat) → Bool
  | _, _, [] => true
  | l, p, q :: r => decide (p ≤ q.1) && (ck q.2.1 q.2.2 (l.drop (q.1 - p)) && dcw (l.drop (q.1 - p)) q.1 r)
def dc_T (c : ByteArray) (t : List (Nat × Instr × Nat)) : Bool := dcw c.data.toList 0 t
theorem dcw_ok {L : List UInt8} : ∀ (t : List (Nat × Instr × Nat)) (p : Nat), dcw (L.drop p) p t = true → ∀ q ∈ t, ck q.2.1 q.2.2 (L.drop q.1) = true
  | [], _, _, _, h => absurd h List.not_mem_nil
  | q0 :: r, p, h, q, hq => by
    have h' : (decide (p ≤ q0.1) && (ck q0.2.1 q0.2.2 ((L.drop p).drop (q0.1 - p)) && dcw ((L.drop p).drop (q0.1 - p)) q0.1 r)) = true := h
    rw [Bool.and_eq_true, Bool.and_eq_true] at h'
    obtain ⟨h1, h2, h3⟩ := h'
    have h1 := of_decide_eq_true h1
    have e : (L.drop p).drop (q0.1 - p) = L.drop q0.1 := by rw [List.drop_drop]; congr 1; omega
    rw [e] at h2 h3
    rcases List.mem_cons.mp hq with z | z
    · rw [z]; exact h2
    · exact dcw_ok r q0.1 h3 q z
theorem dc {c : ByteArray} {t : List (Nat × Instr × Nat)} (h : dc_T c t = true) (i : Nat) {pc len : Nat} {ins : Instr} (hi : t[i]? = some (pc, ins, len)) : decode c pc = .ok (ins, len) :=
  ck_ok (dcw_ok (L := c.data.toList) t 0 h _ (List.mem_of_getElem? hi))
