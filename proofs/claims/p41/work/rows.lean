section
/-! ALONE the witness, its own general rows -/
set_option maxRecDepth 16384
theorem su_code_word {a : Array Value} {s : State} {x : MethodName} {bytes : ByteArray} {maxL : Nat} {ret : Option FieldType} {m : MethodId} {meth : Method} {c : Code}
    (hn : s.methodNamed? x = some m) (hm : s.vm.method? m = some meth) (hc : meth.code = some c) (h1 : c.code = bytes) (h2 : c.maxLocals = maxL) (h3 : c.exceptionTable.isEmpty = true)
    (h4 : meth.sig.returnType = ret) (h5 : meth.locks = false) (h6 : parseMethodDescriptor x.desc = some meth.sig) (h7 : c.maxStack ≤ mostOperands) : (Cond.code x bytes maxL ret).before a s = true := by
  subst h1 h2 h4
  simp [Cond.before, Cond.holds, Cond.value, hn, hm, hc, h3, h5, h6, h7]
theorem su_hand_word {a : Array Value} {s : State} {x : MethodName} {m : MethodId} {nm ds : String} {ps : List FieldType} {ret : Option FieldType} {fl maxL : Nat} {bytes : ByteArray}
    (hn : s.methodNamed? x = some m) (hm : s.vm.method? m = some (Lib.HandJ.method nm ds ps ret fl maxL bytes)) (h5 : (Lib.HandJ.method nm ds ps ret fl maxL bytes).locks = false)
    (h6 : parseMethodDescriptor x.desc = some (Lib.HandJ.method nm ds ps ret fl maxL bytes).sig) : (Cond.code x bytes maxL ret).before a s = true :=
  su_code_word hn hm rfl rfl rfl rfl rfl h5 h6 (by first | decide | exact Nat.le_of_ble_eq_true rfl)
def su_isCode : Jvm.Cond → Bool
  | .code .. => true
  | _ => false
theorem su_words {l : List Jvm.Cond} {f : Jvm.Cond → Bool} (h1 : l.all (fun c => su_isCode c || f c) = true) (h2 : ∀ c ∈ l.filter su_isCode, f c = true) : ∀ c ∈ l, f c = true := by
  intro c hc
  have h := List.all_eq_true.mp h1 c hc
  cases hq : su_isCode c with
  | false => simpa [hq] using h
  | true => exact h2 c (List.mem_filter.mpr ⟨hc, hq⟩)
def su_look {α : Type} (d : α) : List (Nat × α) → Nat → α
  | [], _ => d
  | (k, v) :: r, i => match Nat.beq k i with
    | true => v
    | false => su_look d r i
def su_down {α : Type} (f : Nat → α) (n : Nat) : Nat → List α
  | 0 => []
  | k + 1 => f (n - (k + 1)) :: su_down f n k
def su_arr {α : Type} (d : α) (ps : List (Nat × α)) (n : Nat) : Array α := ⟨su_down (su_look d ps) n n⟩
def su_poolPairs : List Lib.HandW.Entry → Nat → List (Nat × CpInfo)
  | [], _ => []
  | (kind, k, cls, name, desc, c, _) :: r, b =>
    ((if kind ≤ 1 then [(k, if kind = 0 then CpInfo.fieldref b (b + 2) else CpInfo.methodref b (b + 2)), (b, CpInfo.class_ (b + 1)), (b + 1, CpInfo.utf8 (stringToUtf16 cls)), (b + 2, CpInfo.nameAndType (b + 3) (b + 4)), (b + 3, CpInfo.utf8 (stringToUtf16 name)), (b + 4, CpInfo.utf8 (stringToUtf16 desc))]
     else if kind = 2 then [(k, CpInfo.class_ b), (b, CpInfo.utf8 (stringToUtf16 cls))]
     else if kind = 3 then [(k, CpInfo.string b), (b, CpInfo.utf8 (stringToUtf16 name))]
     else if kind = 4 then [(k, CpInfo.long (UInt64.ofNat c))]
     else if kind = 5 then [(k, CpInfo.integer (UInt32.ofNat c))]
     else if kind = 6 then [(k, CpInfo.float (UInt32.ofNat c))]
     else if kind = 8 then [(k, CpInfo.interfaceMethodref b (b + 2)), (b, CpInfo.class_ (b + 1)), (b + 1, CpInfo.utf8 (stringToUtf16 cls)), (b + 2, CpInfo.nameAndType (b + 3) (b + 4)), (b + 3, CpInfo.utf8 (stringToUtf16 name)), (b + 4, CpInfo.utf8 (stringToUtf16 desc))]
     else [(k, CpInfo.double (UInt64.ofNat c))]) : List (Nat × CpInfo)) ++ su_poolPairs r (b + 7)
def su_resPairs : List Lib.HandW.Entry → Nat → List (Nat × Option Resolved)
  | [], _ => []
  | (kind, k, _, _, _, c, i) :: t, b =>
    ((if kind = 0 then [(k, some (Resolved.field c i)), (b, some (Resolved.cls c))]
     else if kind = 1 then [(k, some (Resolved.method ⟨c, i⟩)), (b, some (Resolved.cls c))]
     else if kind = 2 then [(k, some (Resolved.cls c))]
     else if kind = 3 then [(k, some (Resolved.string c))]
     else if kind = 8 then [(k, some (Resolved.method ⟨c, i⟩)), (b, some (Resolved.cls c))]
     else []) : List (Nat × Option Resolved)) ++ su_resPairs t (b + 7)
def su_own (name : String) (flags : Nat) (es : List Lib.HandW.Entry) (fs : List (String × FieldType × Nat)) (m : Method) : Class :=
  { Lib.HandJ.cls name (su_arr CpInfo.unusable (su_poolPairs es (Lib.HandW.top es)) (Lib.HandW.top es + 7 * es.length)) (su_arr (none : Option Resolved) (su_resPairs es (Lib.HandW.top es)) (Lib.HandW.top es + 7 * es.length)) flags (Lib.HandW.fieldsFrom fs 0).toArray #[m] (fs.map fun f => f.2.1).toArray with super := some 1 }
/-! ===== END general text ===== -/
/-! ALONE the witness, part 1 -/
def start1.mLaw : Method := Lib.HandJ.method x.name x.desc [.array .int] ret 0x9 maxLocals code
/-- the class entry of a reference to an inherited member names the subclass: resolved to that class, not to the declarer's -/
def start1.suRes (es : List (Nat × Resolved)) (c : Class) : Class := { c with resolved := es.foldl (fun r e => r.setIfInBounds e.1 (some e.2)) c.resolved }
/-- float and double constants, set over their places in the pool: the kit's 'own' has no kind for them -/
def start1.suPool (es : List (Nat × Jvm.ClassFile.CpInfo)) (c : Class) : Class := { c with cf := c.cf.map fun f => { f with constantPool := es.foldl (fun p e => p.setIfInBounds e.1 e.2) f.constantPool } }
def start1.cObjectC : Class := { Lib.HandBits.cObject with methods := Lib.HandBits.cObject.methods ++ #[{ name := "clone", desc := "()Ljava/lang/Object;", sig := { parameters := [], returnType := some (.object "java/lang/Object") }, accessFlags := 0x104, code := none }] }
def start1.c0 : Class := suPool [(128, Jvm.ClassFile.CpInfo.double 13830554455654793216), (134, Jvm.ClassFile.CpInfo.float 3212836864)] { su_own "TypeTutorLaw" 0x31
    [(1, 7, "TypeTutor", "lesson", "()I", 2, 1),
     (2, 8, "TypeTutor", "", "", 2, 0),
     (2, 13, "java/lang/IllegalArgumentException", "", "", 37, 0),
     (2, 15, "java/lang/UnsupportedOperationException", "", "", 40, 0),
     (1, 17, "TypeTutor", "drop", "(I)I", 2, 2),
     (1, 21, "TypeTutor", "keep", "(II)I", 2, 3),
     (1, 25, "TypeTutor", "unkeep", "(I)I", 2, 4),
     (1, 28, "TypeTutor", "nodes", "(I)I", 2, 5),
     (2, 31, "java/lang/IndexOutOfBoundsException", "", "", 39, 0),
     (1, 33, "TypeTutor", "nodeOf", "(III)I", 2, 6),
     (1, 37, "TypeTutor", "signOf", "(II)C", 2, 7),
     (2, 41, "java/util/NoSuchElementException", "", "", 38, 0),
     (1, 43, "TypeTutor", "binder", "(II)I", 2, 8),
     (1, 46, "TypeTutor", "uses", "(II)I", 2, 9),
     (1, 49, "TypeTutor", "unbound", "(I)I", 2, 10),
     (1, 52, "TypeTutor", "isTyped", "(I)Z", 2, 11),
     (1, 56, "TypeTutor", "failure", "(II)I", 2, 12),
     (1, 59, "TypeTutor", "typeOf", "(II)I", 2, 13),
     (2, 62, "java/lang/IllegalStateException", "", "", 36, 0),
     (1, 64, "TypeTutor", "typeAgain", "(II)I", 2, 14),
     (1, 67, "TypeTutor", "nodeType", "(III)I", 2, 15),
     (1, 70, "TypeTutor", "isAlike", "(II)Z", 2, 16),
     (1, 74, "TypeTutor", "isAsGeneral", "(II)Z", 2, 17),
     (1, 77, "TypeTutor", "fit", "(II)I", 2, 18),
     (1, 80, "TypeTutor", "fitting", "(I)I", 2, 19),
     (1, 83, "TypeTutor", "isKept", "(I)Z", 2, 20),
     (1, 86, "TypeTutor", "largest", "()I", 2, 21),
     (1, 89, "TypeTutor", "ranked", "(I)I", 2, 22),
     (1, 92, "TypeTutor", "append", "(C)I", 2, 24),
     (1, 96, "TypeTutor", "run", "()I", 2, 25),
     (1, 99, "TypeTutor", "reason", "(IZ)I", 2, 27),
     (1, 103, "TypeTutor", "tell", "(I)I", 2, 28),
     (1, 109, "TypeTutor", "tellKept", "(I)I", 2, 29),
     (1, 112, "TypeTutor", "tellTerm", "(I)I", 2, 30),
     (1, 115, "TypeTutor", "character", "(I)C", 2, 31),
     (1, 119, "TypeTutor", "account", "(I)I", 2, 32),
     (1, 122, "TypeTutor", "meanSize", "()D", 2, 33),
     (2, 126, "java/lang/ArithmeticException", "", "", 41, 0),
     (5, 128, "", "", "", 0, 0),
     (1, 130, "TypeTutor", "typedShare", "()F", 2, 34),
     (5, 134, "", "", "", 0, 0),
     (1, 135, "TypeTutor", "undo", "()I", 2, 35),
     (1, 138, "TypeTutor", "restore", "()I", 2, 37),
     (1, 141, "java/lang/String", "length", "()I", 29, 1),
     (1, 146, "java/lang/String", "charAt", "(I)C", 29, 3),
     (1, 149, "TypeTutorLaw", "append", "(LTypeTutor;C)I", 0, 24),
     (1, 154, "java/lang/String", "isEmpty", "()Z", 29, 2),
     (1, 158, "TypeTutorLaw$Bits", "next", "(I)I", 20, 1),
     (2, 159, "TypeTutorLaw$Bits", "", "", 20, 0),
     (2, 163, "java/lang/StringBuilder", "", "", 32, 0),
     (1, 165, "java/lang/StringBuilder", "<init>", "()V", 32, 0),
     (3, 166, "", "", "", 48, 0),
     (1, 168, "java/lang/StringBuilder", "append", "(Ljava/lang/String;)Ljava/lang/StringBuilder;", 32, 1),
     (1, 171, "java/lang/StringBuilder", "append", "(C)Ljava/lang/StringBuilder;", 32, 2),
     (1, 174, "java/lang/StringBuilder", "toString", "()Ljava/lang/String;", 32, 4),
     (1, 178, "java/lang/StringBuilder", "append", "(I)Ljava/lang/StringBuilder;", 32, 3),
     (3, 181, "", "++<??", "", 52, 0),
     (3, 183, "", "xyz", "", 54, 0),
     (1, 185, "TypeTutorLaw", "term", "(LTypeTutorLaw$Bits;ILjava/lang/String;)Ljava/lang/String;", 0, 39),
     (3, 189, "", "(", "", 68, 0),
     (3, 191, "", ")", "", 16, 0),
     (3, 193, "", "xyzf", "", 50, 0),
     (1, 195, "TypeTutorLaw", "leaf", "(LTypeTutorLaw$Bits;Ljava/lang/String;)Ljava/lang/String;", 0, 37),
     (3, 199, "", "^", "", 56, 0),
     (3, 201, "", ".", "", 58, 0),
     (3, 203, "", "!", "", 60, 0),
     (3, 205, "", "=", "", 62, 0),
     (3, 207, "", ";", "", 64, 0),
     (3, 209, "", "+<?", "", 66, 0),
     (1, 211, "TypeTutorLaw", "part", "(LTypeTutorLaw$Bits;ILjava/lang/String;)Ljava/lang/String;", 0, 38),
     (3, 214, "", "^x.x", "", 70, 0),
     (1, 216, "TypeTutorLaw", "account", "(LTypeTutor;I)I", 0, 31),
     (1, 219, "java/lang/Math", "max", "(II)I", 11, 1),
     (1, 224, "TypeTutorLaw", "drawn", "(LTypeTutorLaw$Bits;)Ljava/lang/String;", 0, 40),
     (1, 228, "TypeTutorLaw", "types", "(LTypeTutor;Ljava/lang/String;)V", 0, 36),
     (1, 232, "TypeTutorLaw", "lesson", "(LTypeTutor;)I", 0, 2),
     (1, 235, "TypeTutorLaw", "some", "(LTypeTutor;LTypeTutorLaw$Bits;)I", 0, 41),
     (1, 239, "TypeTutorLaw", "drop", "(LTypeTutor;I)I", 0, 3),
     (1, 241, "TypeTutorLaw", "keep", "(LTypeTutor;II)I", 0, 4),
     (1, 244, "TypeTutorLaw", "unkeep", "(LTypeTutor;I)I", 0, 5),
     (3, 246, "", "k", "", 78, 0),
     (3, 248, "", "x", "", 80, 0),
     (3, 250, "", ";u", "", 82, 0),
     (1, 252, "TypeTutorLaw", "run", "(LTypeTutor;)I", 0, 25),
     (1, 254, "TypeTutorLaw", "character", "(LTypeTutor;I)I", 0, 30),
     (1, 256, "TypeTutorLaw", "tellTerm", "(LTypeTutor;I)I", 0, 29),
     (1, 258, "TypeTutorLaw", "line", "(LTypeTutor;I)Ljava/lang/String;", 0, 43),
     (1, 262, "TypeTutorLaw", "isTyped", "(LTypeTutor;I)I", 0, 12),
     (1, 264, "TypeTutorLaw", "tell", "(LTypeTutor;I)I", 0, 27),
     (1, 266, "TypeTutorLaw", "failure", "(LTypeTutor;II)I", 0, 13),
     (1, 268, "TypeTutorLaw", "isKept", "(LTypeTutor;I)I", 0, 21),
     (1, 270, "TypeTutorLaw", "tellKept", "(LTypeTutor;I)I", 0, 28),
     (3, 272, "", "-", "", 94, 0),
     (3, 274, "", "^x.^y.x", "", 96, 0),
     (3, 276, "", "!f=^x.x;f+(f1)", "", 98, 0),
     (3, 278, "", "^x.xx", "", 100, 0),
     (1, 280, "TypeTutorLaw", "nodes", "(LTypeTutor;I)I", 0, 6),
     (1, 282, "TypeTutorLaw", "nodeOf", "(LTypeTutor;III)I", 0, 7),
     (1, 285, "TypeTutorLaw", "signOf", "(LTypeTutor;II)I", 0, 8),
     (1, 287, "TypeTutorLaw", "uses", "(LTypeTutor;II)I", 0, 10),
     (1, 289, "TypeTutorLaw", "binder", "(LTypeTutor;II)I", 0, 9),
     (1, 291, "TypeTutorLaw", "nodeType", "(LTypeTutor;III)I", 0, 16),
     (1, 293, "TypeTutorLaw", "unbound", "(LTypeTutor;I)I", 0, 11),
     (1, 295, "TypeTutorLaw", "typeOf", "(LTypeTutor;II)I", 0, 14),
     (1, 297, "TypeTutorLaw", "typeAgain", "(LTypeTutor;II)I", 0, 15),
     (1, 299, "TypeTutorLaw", "isAlike", "(LTypeTutor;II)I", 0, 17),
     (1, 301, "TypeTutorLaw", "isAsGeneral", "(LTypeTutor;II)I", 0, 18),
     (1, 303, "TypeTutorLaw", "fit", "(LTypeTutor;II)I", 0, 19),
     (1, 305, "TypeTutorLaw", "fitting", "(LTypeTutor;I)I", 0, 20),
     (1, 307, "TypeTutor", "isTold", "()Z", 2, 23),
     (1, 310, "TypeTutorLaw", "ranked", "(LTypeTutor;I)I", 0, 23),
     (1, 312, "TypeTutorLaw", "largest", "(LTypeTutor;)I", 0, 22),
     (1, 314, "TypeTutorLaw", "meanSize", "(LTypeTutor;)D", 0, 32),
     (1, 317, "TypeTutorLaw", "typedShare", "(LTypeTutor;)F", 0, 33),
     (1, 320, "TypeTutor", "<init>", "()V", 2, 0),
     (1, 321, "TypeTutorLaw", "undo", "(LTypeTutor;)I", 0, 34),
     (1, 323, "TypeTutorLaw", "restore", "(LTypeTutor;)I", 0, 35),
     (1, 325, "TypeTutorLaw", "reason", "(LTypeTutor;IZ)I", 0, 26),
     (1, 328, "TypeTutor", "faultPosition", "()I", 2, 26),
     (1, 331, "TypeTutorLaw", "stock", "(LTypeTutor;)I", 0, 45),
     (1, 334, "TypeTutorLaw", "cell", "([II)I", 0, 1),
     (1, 338, "TypeTutorLaw$Bits", "<init>", "(I)V", 20, 0),
     (1, 341, "TypeTutorLaw", "told", "(LTypeTutor;)Ljava/lang/String;", 0, 44),
     (1, 345, "TypeTutorLaw", "acts", "(LTypeTutor;ILTypeTutorLaw$Bits;)I", 0, 42),
     (1, 349, "java/lang/String", "equals", "(Ljava/lang/Object;)Z", 29, 4),
     (1, 353, "java/lang/Math", "min", "(II)I", 11, 2),
     (1, 356, "TypeTutorLaw", "isPairs", "(LTypeTutor;)Z", 0, 48),
     (1, 360, "TypeTutorLaw", "isAccounts", "(LTypeTutor;)Z", 0, 49),
     (1, 363, "TypeTutorLaw", "isNodes", "(LTypeTutor;I)Z", 0, 46),
     (1, 367, "TypeTutorLaw", "isTypes", "(LTypeTutor;I)Z", 0, 47),
     (1, 370, "TypeTutor", "save", "()I", 2, 36)]
    [] mLaw with
  methods := #[mLaw,
    Lib.HandJ.method "cell" "([II)I" [.array .int, .int] (some .int) 0xa 2 method_2_code,
    (let q := Lib.HandJ.method "lesson" "(LTypeTutor;)I" [.object "TypeTutor"] (some .int) 0xa 2 method_3_code; { q with code := q.code.map fun c => { c with exceptionTable := #[{ startPc := 0, endPc := 4, handlerPc := 5, catchType := 13 }, { startPc := 0, endPc := 4, handlerPc := 8, catchType := 15 }] } }),
    (let q := Lib.HandJ.method "drop" "(LTypeTutor;I)I" [.object "TypeTutor", .int] (some .int) 0xa 3 method_4_code; { q with code := q.code.map fun c => { c with exceptionTable := #[{ startPc := 0, endPc := 5, handlerPc := 6, catchType := 15 }] } }),
    (let q := Lib.HandJ.method "keep" "(LTypeTutor;II)I" [.object "TypeTutor", .int, .int] (some .int) 0xa 4 method_5_code; { q with code := q.code.map fun c => { c with exceptionTable := #[{ startPc := 0, endPc := 6, handlerPc := 7, catchType := 15 }] } }),
    (let q := Lib.HandJ.method "unkeep" "(LTypeTutor;I)I" [.object "TypeTutor", .int] (some .int) 0xa 3 method_6_code; { q with code := q.code.map fun c => { c with exceptionTable := #[{ startPc := 0, endPc := 5, handlerPc := 6, catchType := 15 }] } }),
    (let q := Lib.HandJ.method "nodes" "(LTypeTutor;I)I" [.object "TypeTutor", .int] (some .int) 0xa 3 method_7_code; { q with code := q.code.map fun c => { c with exceptionTable := #[{ startPc := 0, endPc := 5, handlerPc := 6, catchType := 31 }] } }),
    (let q := Lib.HandJ.method "nodeOf" "(LTypeTutor;III)I" [.object "TypeTutor", .int, .int, .int] (some .int) 0xa 5 method_8_code; { q with code := q.code.map fun c => { c with exceptionTable := #[{ startPc := 0, endPc := 7, handlerPc := 8, catchType := 31 }, { startPc := 0, endPc := 7, handlerPc := 12, catchType := 13 }] } }),
    (let q := Lib.HandJ.method "signOf" "(LTypeTutor;II)I" [.object "TypeTutor", .int, .int] (some .int) 0xa 4 method_9_code; { q with code := q.code.map fun c => { c with exceptionTable := #[{ startPc := 0, endPc := 6, handlerPc := 7, catchType := 31 }, { startPc := 0, endPc := 6, handlerPc := 10, catchType := 41 }] } }),
    (let q := Lib.HandJ.method "binder" "(LTypeTutor;II)I" [.object "TypeTutor", .int, .int] (some .int) 0xa 4 method_10_code; { q with code := q.code.map fun c => { c with exceptionTable := #[{ startPc := 0, endPc := 6, handlerPc := 7, catchType := 31 }, { startPc := 0, endPc := 6, handlerPc := 10, catchType := 41 }] } }),
    (let q := Lib.HandJ.method "uses" "(LTypeTutor;II)I" [.object "TypeTutor", .int, .int] (some .int) 0xa 4 method_11_code; { q with code := q.code.map fun c => { c with exceptionTable := #[{ startPc := 0, endPc := 6, handlerPc := 7, catchType := 31 }, { startPc := 0, endPc := 6, handlerPc := 10, catchType := 13 }] } }),
    (let q := Lib.HandJ.method "unbound" "(LTypeTutor;I)I" [.object "TypeTutor", .int] (some .int) 0xa 3 method_12_code; { q with code := q.code.map fun c => { c with exceptionTable := #[{ startPc := 0, endPc := 5, handlerPc := 6, catchType := 31 }] } }),
    (let q := Lib.HandJ.method "isTyped" "(LTypeTutor;I)I" [.object "TypeTutor", .int] (some .int) 0xa 3 method_13_code; { q with code := q.code.map fun c => { c with exceptionTable := #[{ startPc := 0, endPc := 13, handlerPc := 14, catchType := 31 }] } }),
    (let q := Lib.HandJ.method "failure" "(LTypeTutor;II)I" [.object "TypeTutor", .int, .int] (some .int) 0xa 4 method_14_code; { q with code := q.code.map fun c => { c with exceptionTable := #[{ startPc := 0, endPc := 6, handlerPc := 7, catchType := 31 }, { startPc := 0, endPc := 6, handlerPc := 10, catchType := 13 }, { startPc := 0, endPc := 6, handlerPc := 14, catchType := 41 }] } }),
    (let q := Lib.HandJ.method "typeOf" "(LTypeTutor;II)I" [.object "TypeTutor", .int, .int] (some .int) 0xa 4 method_15_code; { q with code := q.code.map fun c => { c with exceptionTable := #[{ startPc := 0, endPc := 6, handlerPc := 7, catchType := 31 }, { startPc := 0, endPc := 6, handlerPc := 10, catchType := 13 }, { startPc := 0, endPc := 6, handlerPc := 14, catchType := 62 }] } }),
    (let q := Lib.HandJ.method "typeAgain" "(LTypeTutor;II)I" [.object "TypeTutor", .int, .int] (some .int) 0xa 4 method_16_code; { q with code := q.code.map fun c => { c with exceptionTable := #[{ startPc := 0, endPc := 6, handlerPc := 7, catchType := 31 }, { startPc := 0, endPc := 6, handlerPc := 10, catchType := 13 }, { startPc := 0, endPc := 6, handlerPc := 14, catchType := 62 }] } }),
    (let q := Lib.HandJ.method "nodeType" "(LTypeTutor;III)I" [.object "TypeTutor", .int, .int, .int] (some .int) 0xa 5 method_17_code; { q with code := q.code.map fun c => { c with exceptionTable := #[{ startPc := 0, endPc := 7, handlerPc := 8, catchType := 31 }, { startPc := 0, endPc := 7, handlerPc := 12, catchType := 13 }, { startPc := 0, endPc := 7, handlerPc := 17, catchType := 62 }] } }),
    (let q := Lib.HandJ.method "isAlike" "(LTypeTutor;II)I" [.object "TypeTutor", .int, .int] (some .int) 0xa 4 method_18_code; { q with code := q.code.map fun c => { c with exceptionTable := #[{ startPc := 0, endPc := 14, handlerPc := 15, catchType := 31 }, { startPc := 0, endPc := 14, handlerPc := 18, catchType := 62 }] } }),
    (let q := Lib.HandJ.method "isAsGeneral" "(LTypeTutor;II)I" [.object "TypeTutor", .int, .int] (some .int) 0xa 4 method_19_code; { q with code := q.code.map fun c => { c with exceptionTable := #[{ startPc := 0, endPc := 14, handlerPc := 15, catchType := 31 }, { startPc := 0, endPc := 14, handlerPc := 18, catchType := 62 }] } }),
    (let q := Lib.HandJ.method "fit" "(LTypeTutor;II)I" [.object "TypeTutor", .int, .int] (some .int) 0xa 4 method_20_code; { q with code := q.code.map fun c => { c with exceptionTable := #[{ startPc := 0, endPc := 6, handlerPc := 7, catchType := 31 }, { startPc := 0, endPc := 6, handlerPc := 10, catchType := 62 }, { startPc := 0, endPc := 6, handlerPc := 14, catchType := 41 }] } }),
    (let q := Lib.HandJ.method "fitting" "(LTypeTutor;I)I" [.object "TypeTutor", .int] (some .int) 0xa 3 method_21_code; { q with code := q.code.map fun c => { c with exceptionTable := #[{ startPc := 0, endPc := 5, handlerPc := 6, catchType := 31 }, { startPc := 0, endPc := 5, handlerPc := 9, catchType := 62 }] } }),
    (let q := Lib.HandJ.method "isKept" "(LTypeTutor;I)I" [.object "TypeTutor", .int] (some .int) 0xa 3 method_22_code; { q with code := q.code.map fun c => { c with exceptionTable := #[{ startPc := 0, endPc := 13, handlerPc := 14, catchType := 31 }] } }),
    (let q := Lib.HandJ.method "largest" "(LTypeTutor;)I" [.object "TypeTutor"] (some .int) 0xa 2 method_23_code; { q with code := q.code.map fun c => { c with exceptionTable := #[{ startPc := 0, endPc := 4, handlerPc := 5, catchType := 41 }] } }),
    (let q := Lib.HandJ.method "ranked" "(LTypeTutor;I)I" [.object "TypeTutor", .int] (some .int) 0xa 3 method_24_code; { q with code := q.code.map fun c => { c with exceptionTable := #[{ startPc := 0, endPc := 5, handlerPc := 6, catchType := 41 }] } }),
    (let q := Lib.HandJ.method "append" "(LTypeTutor;C)I" [.object "TypeTutor", .char] (some .int) 0xa 3 method_25_code; { q with code := q.code.map fun c => { c with exceptionTable := #[{ startPc := 0, endPc := 5, handlerPc := 6, catchType := 13 }, { startPc := 0, endPc := 5, handlerPc := 9, catchType := 62 }] } }),
    (let q := Lib.HandJ.method "run" "(LTypeTutor;)I" [.object "TypeTutor"] (some .int) 0xa 2 method_26_code; { q with code := q.code.map fun c => { c with exceptionTable := #[{ startPc := 0, endPc := 4, handlerPc := 5, catchType := 13 }, { startPc := 0, endPc := 4, handlerPc := 8, catchType := 15 }] } }),
    (let q := Lib.HandJ.method "reason" "(LTypeTutor;IZ)I" [.object "TypeTutor", .int, .boolean] (some .int) 0xa 4 method_27_code; { q with code := q.code.map fun c => { c with exceptionTable := #[{ startPc := 0, endPc := 6, handlerPc := 7, catchType := 13 }, { startPc := 0, endPc := 6, handlerPc := 10, catchType := 41 }] } }),
    (let q := Lib.HandJ.method "tell" "(LTypeTutor;I)I" [.object "TypeTutor", .int] (some .int) 0xa 3 method_28_code; { q with code := q.code.map fun c => { c with exceptionTable := #[{ startPc := 0, endPc := 5, handlerPc := 6, catchType := 31 }, { startPc := 0, endPc := 5, handlerPc := 9, catchType := 62 }] } }),
    (let q := Lib.HandJ.method "tellKept" "(LTypeTutor;I)I" [.object "TypeTutor", .int] (some .int) 0xa 3 method_30_code; { q with code := q.code.map fun c => { c with exceptionTable := #[{ startPc := 0, endPc := 5, handlerPc := 6, catchType := 31 }, { startPc := 0, endPc := 5, handlerPc := 9, catchType := 41 }] } }),
    (let q := Lib.HandJ.method "tellTerm" "(LTypeTutor;I)I" [.object "TypeTutor", .int] (some .int) 0xa 3 method_31_code; { q with code := q.code.map fun c => { c with exceptionTable := #[{ startPc := 0, endPc := 5, handlerPc := 6, catchType := 31 }] } }),
    (let q := Lib.HandJ.method "character" "(LTypeTutor;I)I" [.object "TypeTutor", .int] (some .int) 0xa 3 method_32_code; { q with code := q.code.map fun c => { c with exceptionTable := #[{ startPc := 0, endPc := 5, handlerPc := 6, catchType := 31 }] } }),
    (let q := Lib.HandJ.method "account" "(LTypeTutor;I)I" [.object "TypeTutor", .int] (some .int) 0xa 3 method_33_code; { q with code := q.code.map fun c => { c with exceptionTable := #[{ startPc := 0, endPc := 5, handlerPc := 6, catchType := 13 }] } }),
    (let q := Lib.HandJ.method "meanSize" "(LTypeTutor;)D" [.object "TypeTutor"] (some .double) 0xa 2 method_34_code; { q with code := q.code.map fun c => { c with exceptionTable := #[{ startPc := 0, endPc := 4, handlerPc := 5, catchType := 126 }] } }),
    (let q := Lib.HandJ.method "typedShare" "(LTypeTutor;)F" [.object "TypeTutor"] (some .float) 0xa 2 method_35_code; { q with code := q.code.map fun c => { c with exceptionTable := #[{ startPc := 0, endPc := 4, handlerPc := 5, catchType := 126 }] } }),
    (let q := Lib.HandJ.method "undo" "(LTypeTutor;)I" [.object "TypeTutor"] (some .int) 0xa 2 method_36_code; { q with code := q.code.map fun c => { c with exceptionTable := #[{ startPc := 0, endPc := 4, handlerPc := 5, catchType := 62 }] } }),
    (let q := Lib.HandJ.method "restore" "(LTypeTutor;)I" [.object "TypeTutor"] (some .int) 0xa 2 method_37_code; { q with code := q.code.map fun c => { c with exceptionTable := #[{ startPc := 0, endPc := 4, handlerPc := 5, catchType := 62 }] } }),
    Lib.HandJ.method "types" "(LTypeTutor;Ljava/lang/String;)V" [.object "TypeTutor", .object "java/lang/String"] none 0xa 4 method_38_code,
    Lib.HandJ.method "leaf" "(LTypeTutorLaw$Bits;Ljava/lang/String;)Ljava/lang/String;" [.object "TypeTutorLaw$Bits", .object "java/lang/String"] (some (.object "java/lang/String")) 0xa 3 method_39_code,
    Lib.HandJ.method "part" "(LTypeTutorLaw$Bits;ILjava/lang/String;)Ljava/lang/String;" [.object "TypeTutorLaw$Bits", .int, .object "java/lang/String"] (some (.object "java/lang/String")) 0xa 4 method_40_code,
    Lib.HandJ.method "term" "(LTypeTutorLaw$Bits;ILjava/lang/String;)Ljava/lang/String;" [.object "TypeTutorLaw$Bits", .int, .object "java/lang/String"] (some (.object "java/lang/String")) 0xa 6 method_41_code,
    Lib.HandJ.method "drawn" "(LTypeTutorLaw$Bits;)Ljava/lang/String;" [.object "TypeTutorLaw$Bits"] (some (.object "java/lang/String")) 0xa 2 method_42_code,
    Lib.HandJ.method "some" "(LTypeTutor;LTypeTutorLaw$Bits;)I" [.object "TypeTutor", .object "TypeTutorLaw$Bits"] (some .int) 0xa 2 method_43_code,
    Lib.HandJ.method "acts" "(LTypeTutor;ILTypeTutorLaw$Bits;)I" [.object "TypeTutor", .int, .object "TypeTutorLaw$Bits"] (some .int) 0xa 3 method_44_code,
    Lib.HandJ.method "line" "(LTypeTutor;I)Ljava/lang/String;" [.object "TypeTutor", .int] (some (.object "java/lang/String")) 0xa 4 method_45_code,
    Lib.HandJ.method "told" "(LTypeTutor;)Ljava/lang/String;" [.object "TypeTutor"] (some (.object "java/lang/String")) 0xa 3 method_46_code,
    Lib.HandJ.method "stock" "(LTypeTutor;)I" [.object "TypeTutor"] (some .int) 0xa 2 method_47_code,
    Lib.HandJ.method "isNodes" "(LTypeTutor;I)Z" [.object "TypeTutor", .int] (some .boolean) 0xa 16 method_48_code,
    Lib.HandJ.method "isTypes" "(LTypeTutor;I)Z" [.object "TypeTutor", .int] (some .boolean) 0xa 7 method_49_code,
    Lib.HandJ.method "isPairs" "(LTypeTutor;)Z" [.object "TypeTutor"] (some .boolean) 0xa 10 method_50_code,
    Lib.HandJ.method "isAccounts" "(LTypeTutor;)Z" [.object "TypeTutor"] (some .boolean) 0xa 10 method_51_code] }
def start1.c2 : Class := { su_own "TypeTutor" 0x31
    [(1, 3, "java/lang/Object", "<init>", "()V", 1, 0),
     (2, 9, "java/lang/StringBuilder", "", "", 32, 0),
     (1, 11, "java/lang/StringBuilder", "<init>", "()V", 32, 0),
     (0, 12, "TypeTutor", "input", "Ljava/lang/StringBuilder;", 2, 0),
     (0, 16, "TypeTutor", "line", "Ljava/lang/StringBuilder;", 2, 1),
     (2, 19, "TypeTutor$TermReader", "", "", 4, 0),
     (1, 21, "TypeTutor$TermReader", "<init>", "()V", 4, 0),
     (0, 22, "TypeTutor", "reader", "LTypeTutor$TermReader;", 2, 2),
     (2, 26, "TypeTutor$Finder", "", "", 5, 0),
     (1, 28, "TypeTutor$Finder", "<init>", "()V", 5, 0),
     (0, 29, "TypeTutor", "finder", "LTypeTutor$Finder;", 2, 3),
     (2, 33, "TypeTutor$Shape", "", "", 8, 0),
     (1, 35, "TypeTutor$Shape", "<init>", "(I)V", 8, 0),
     (0, 38, "TypeTutor", "shapeOne", "LTypeTutor$Shape;", 2, 4),
     (0, 42, "TypeTutor", "shapeTwo", "LTypeTutor$Shape;", 2, 5),
     (2, 45, "TypeTutor$State", "", "", 9, 0),
     (1, 47, "TypeTutor$State", "<init>", "()V", 9, 0),
     (0, 48, "TypeTutor", "now", "LTypeTutor$State;", 2, 6),
     (0, 52, "TypeTutor", "before", "LTypeTutor$State;", 2, 7),
     (0, 55, "TypeTutor", "saved", "LTypeTutor$State;", 2, 8),
     (2, 58, "TypeTutor$History", "", "", 10, 0),
     (1, 60, "TypeTutor$History", "<init>", "()V", 10, 0),
     (0, 61, "TypeTutor", "history", "LTypeTutor$History;", 2, 9),
     (0, 65, "TypeTutor", "fault", "I", 2, 11),
     (1, 69, "TypeTutor$TermReader", "faultIn", "(Ljava/lang/StringBuilder;)I", 4, 1),
     (1, 73, "java/lang/StringBuilder", "setLength", "(I)V", 32, 6),
     (2, 76, "java/lang/IllegalArgumentException", "", "", 37, 0),
     (3, 78, "", "the term has a fault", "", 20, 0),
     (1, 80, "java/lang/IllegalArgumentException", "<init>", "(Ljava/lang/String;)V", 37, 0),
     (0, 83, "TypeTutor$State", "count", "I", 9, 2),
     (1, 86, "TypeTutor", "refuse", "(II)I", 2, 41),
     (2, 90, "java/lang/UnsupportedOperationException", "", "", 40, 0),
     (3, 92, "", "there are as many lessons as there can be", "", 22, 0),
     (1, 94, "java/lang/UnsupportedOperationException", "<init>", "(Ljava/lang/String;)V", 40, 0),
     (1, 95, "TypeTutor$State", "take", "(LTypeTutor$State;)V", 9, 1),
     (1, 99, "TypeTutor$TermReader", "read", "(Ljava/lang/StringBuilder;)LTypeTutor$Term;", 4, 7),
     (1, 103, "TypeTutor$State", "give", "(LTypeTutor$Term;)I", 9, 4),
     (1, 107, "TypeTutor$History", "push", "(LTypeTutor$State;)V", 10, 1),
     (1, 110, "TypeTutor", "dropLesson", "(I)I", 2, 38),
     (3, 114, "", "the lesson can't be dropped", "", 24, 0),
     (1, 116, "TypeTutor", "keepType", "(II)I", 2, 39),
     (3, 119, "", "the type can't be kept", "", 76, 0),
     (1, 121, "TypeTutor", "unkeepType", "(I)I", 2, 40),
     (3, 124, "", "the capital can't be emptied", "", 26, 0),
     (1, 126, "TypeTutor", "termOf", "(I)LTypeTutor$Term;", 2, 42),
     (0, 130, "TypeTutor$Term", "count", "I", 19, 1),
     (1, 133, "TypeTutor", "termWith", "(II)LTypeTutor$Term;", 2, 43),
     (3, 137, "", "there is no such number of a node", "", 104, 0),
     (1, 139, "TypeTutor$Term", "of", "(II)I", 19, 2),
     (2, 142, "java/util/NoSuchElementException", "", "", 38, 0),
     (3, 144, "", "an application has no sign", "", 106, 0),
     (1, 146, "java/util/NoSuchElementException", "<init>", "(Ljava/lang/String;)V", 38, 0),
     (3, 147, "", "nothing binds this node", "", 110, 0),
     (3, 149, "", "the node is neither a function nor a let", "", 108, 0),
     (1, 151, "TypeTutor$Term", "namesBoundBy", "(I)I", 19, 5),
     (1, 154, "TypeTutor$Finder", "goThrough", "(LTypeTutor$Term;LTypeTutor$State;Z)Z", 5, 1),
     (3, 158, "", "there is no such number of a failure", "", 88, 0),
     (3, 160, "", "the lesson has a type", "", 90, 0),
     (0, 162, "TypeTutor$Finder", "reasonFound", "I", 5, 10),
     (0, 165, "TypeTutor$Finder", "where", "I", 5, 11),
     (0, 168, "TypeTutor$Finder", "partOne", "I", 5, 12),
     (0, 171, "TypeTutor$Finder", "partTwo", "I", 5, 13),
     (1, 174, "TypeTutor", "needMeasure", "(I)V", 2, 44),
     (1, 177, "TypeTutor", "needType", "(LTypeTutor$Term;LTypeTutor$Shape;)V", 2, 46),
     (1, 181, "TypeTutor$Shape", "measure", "(I)I", 8, 4),
     (2, 184, "java/lang/IllegalStateException", "", "", 36, 0),
     (3, 186, "", "the second way goes through too many nodes", "", 114, 0),
     (1, 188, "java/lang/IllegalStateException", "<init>", "(Ljava/lang/String;)V", 36, 0),
     (1, 189, "TypeTutor$Finder", "spellWhole", "(LTypeTutor$Shape;)V", 5, 4),
     (1, 193, "TypeTutor$Finder", "spellNode", "(ILTypeTutor$Shape;)V", 5, 5),
     (1, 197, "TypeTutor$Shape", "isSame", "(LTypeTutor$Shape;)Z", 8, 9),
     (1, 201, "TypeTutor$Shape", "becomes", "(LTypeTutor$Shape;)Z", 8, 10),
     (1, 204, "TypeTutor$Finder", "sizeApplied", "(LTypeTutor$Shape;LTypeTutor$Shape;)I", 5, 6),
     (3, 208, "", "the lessons do not fit", "", 116, 0),
     (1, 210, "TypeTutor$State", "termAt", "(I)LTypeTutor$Term;", 9, 2),
     (1, 213, "TypeTutor", "spells", "(LTypeTutor$Term;LTypeTutor$Shape;)Z", 2, 47),
     (1, 217, "TypeTutor", "needCapital", "(I)V", 2, 45),
     (1, 220, "TypeTutor$State", "keptAt", "(I)LTypeTutor$Shape;", 9, 3),
     (0, 224, "TypeTutor$Shape", "length", "I", 8, 1),
     (3, 227, "", "no lesson has a type", "", 30, 0),
     (1, 229, "TypeTutor$State", "placeOf", "(I)I", 9, 11),
     (3, 232, "", "there is no such place", "", 118, 0),
     (3, 234, "", "no such character can be appended", "", 72, 0),
     (1, 236, "java/lang/StringBuilder", "length", "()I", 32, 7),
     (3, 239, "", "the input is full", "", 74, 0),
     (1, 241, "java/lang/StringBuilder", "append", "(C)Ljava/lang/StringBuilder;", 32, 2),
     (1, 245, "TypeTutor$Orders", "faultIn", "(Ljava/lang/StringBuilder;)I", 12, 0),
     (3, 248, "", "the text has a fault", "", 32, 0),
     (1, 250, "TypeTutor", "signAt", "(Ljava/lang/StringBuilder;I)C", 2, 55),
     (1, 254, "TypeTutor$Orders", "lengthOf", "(C)I", 12, 2),
     (2, 258, "TypeTutor$Refusal", "", "", 18, 0),
     (0, 260, "TypeTutor", "refusal", "LTypeTutor$Refusal;", 2, 12),
     (1, 264, "TypeTutor$Refusal", "<init>", "(IILTypeTutor$Refusal;)V", 18, 0),
     (3, 267, "", "an order is refused", "", 34, 0),
     (3, 269, "", "the depth is neither 0 nor 1", "", 36, 0),
     (0, 271, "TypeTutor$Refusal", "cause", "LTypeTutor$Refusal;", 18, 2),
     (3, 274, "", "there is no such reason", "", 38, 0),
     (0, 276, "TypeTutor$Refusal", "detail", "I", 18, 1),
     (0, 279, "TypeTutor$Refusal", "number", "I", 18, 0),
     (1, 282, "TypeTutor", "writeLine", "(LTypeTutor$Shape;)I", 2, 48),
     (3, 286, "", "the capital keeps nothing", "", 92, 0),
     (1, 288, "TypeTutor$Term", "write", "(Ljava/lang/StringBuilder;)V", 19, 8),
     (2, 292, "java/lang/IndexOutOfBoundsException", "", "", 39, 0),
     (3, 294, "", "there is no such character", "", 40, 0),
     (1, 296, "java/lang/IndexOutOfBoundsException", "<init>", "(Ljava/lang/String;)V", 39, 1),
     (1, 297, "java/lang/StringBuilder", "charAt", "(I)C", 32, 5),
     (1, 301, "TypeTutor", "lessonsFailing", "(I)I", 2, 49),
     (1, 304, "TypeTutor$State", "allNodes", "()I", 9, 9),
     (1, 307, "TypeTutor$State", "capitalsKeeping", "()I", 9, 10),
     (0, 310, "TypeTutor$State", "given", "I", 9, 3),
     (0, 313, "TypeTutor$State", "everKept", "I", 9, 4),
     (1, 316, "TypeTutor", "lessonsWithoutVariables", "()I", 2, 50),
     (0, 319, "TypeTutor$History", "count", "I", 10, 2),
     (3, 320, "", "there is no such account", "", 42, 0),
     (2, 322, "java/lang/ArithmeticException", "", "", 41, 0),
     (1, 324, "java/lang/ArithmeticException", "<init>", "(Ljava/lang/String;)V", 41, 0),
     (3, 325, "", "there are no lessons", "", 120, 0),
     (3, 327, "", "there is no change to undo", "", 44, 0),
     (1, 329, "TypeTutor$History", "pop", "(LTypeTutor$State;)V", 10, 2),
     (0, 332, "TypeTutor", "isSaved", "Z", 2, 10),
     (3, 336, "", "nothing was saved", "", 46, 0),
     (1, 338, "TypeTutor$History", "clear", "()V", 10, 3),
     (1, 341, "TypeTutor$State", "remove", "(I)V", 9, 5),
     (1, 344, "TypeTutor", "isCapital", "(I)Z", 2, 51),
     (1, 348, "TypeTutor$Shape", "copy", "()LTypeTutor$Shape;", 8, 3),
     (1, 352, "TypeTutor$State", "keepAt", "(ILTypeTutor$Shape;)V", 9, 6),
     (1, 355, "TypeTutor$State", "emptyAt", "(I)V", 9, 7),
     (3, 358, "", "there is no such lesson", "", 84, 0),
     (1, 360, "TypeTutor$Term", "hasNode", "(I)Z", 19, 1),
     (3, 363, "", "there is no such node", "", 102, 0),
     (3, 365, "", "there is no such number of a type", "", 112, 0),
     (3, 367, "", "there is no such capital", "", 28, 0),
     (3, 369, "", "the lesson has no type", "", 86, 0),
     (1, 371, "TypeTutor$Shape", "write", "(Ljava/lang/StringBuilder;)V", 8, 13)]
    [("input", .object "java/lang/StringBuilder", 0x12), ("line", .object "java/lang/StringBuilder", 0x12), ("reader", .object "TypeTutor$TermReader", 0x12), ("finder", .object "TypeTutor$Finder", 0x12), ("shapeOne", .object "TypeTutor$Shape", 0x12), ("shapeTwo", .object "TypeTutor$Shape", 0x12), ("now", .object "TypeTutor$State", 0x12), ("before", .object "TypeTutor$State", 0x12), ("saved", .object "TypeTutor$State", 0x12), ("history", .object "TypeTutor$History", 0x12), ("isSaved", .boolean, 0x2), ("fault", .int, 0x2), ("refusal", .object "TypeTutor$Refusal", 0x2)] (Lib.HandJ.method "<init>" "()V" [] none 0x1 1 prog_1_method_1_code) with
  methods := #[Lib.HandJ.method "<init>" "()V" [] none 0x1 1 prog_1_method_1_code,
    Lib.HandJ.method "lesson" "()I" [] (some .int) 0x1 2 prog_1_method_2_code,
    Lib.HandJ.method "drop" "(I)I" [.int] (some .int) 0x1 3 prog_1_method_3_code,
    Lib.HandJ.method "keep" "(II)I" [.int, .int] (some .int) 0x1 4 prog_1_method_4_code,
    Lib.HandJ.method "unkeep" "(I)I" [.int] (some .int) 0x1 3 prog_1_method_5_code,
    Lib.HandJ.method "nodes" "(I)I" [.int] (some .int) 0x1 2 prog_1_method_6_code,
    Lib.HandJ.method "nodeOf" "(III)I" [.int, .int, .int] (some .int) 0x1 5 prog_1_method_7_code,
    Lib.HandJ.method "signOf" "(II)C" [.int, .int] (some .char) 0x1 4 prog_1_method_8_code,
    Lib.HandJ.method "binder" "(II)I" [.int, .int] (some .int) 0x1 4 prog_1_method_9_code,
    Lib.HandJ.method "uses" "(II)I" [.int, .int] (some .int) 0x1 5 prog_1_method_10_code,
    Lib.HandJ.method "unbound" "(I)I" [.int] (some .int) 0x1 2 prog_1_method_11_code,
    Lib.HandJ.method "isTyped" "(I)Z" [.int] (some .boolean) 0x1 2 prog_1_method_12_code,
    Lib.HandJ.method "failure" "(II)I" [.int, .int] (some .int) 0x1 4 prog_1_method_13_code,
    Lib.HandJ.method "typeOf" "(II)I" [.int, .int] (some .int) 0x1 4 prog_1_method_14_code,
    Lib.HandJ.method "typeAgain" "(II)I" [.int, .int] (some .int) 0x1 4 prog_1_method_15_code,
    Lib.HandJ.method "nodeType" "(III)I" [.int, .int, .int] (some .int) 0x1 5 prog_1_method_16_code,
    Lib.HandJ.method "isAlike" "(II)Z" [.int, .int] (some .boolean) 0x1 5 prog_1_method_17_code,
    Lib.HandJ.method "isAsGeneral" "(II)Z" [.int, .int] (some .boolean) 0x1 5 prog_1_method_18_code,
    Lib.HandJ.method "fit" "(II)I" [.int, .int] (some .int) 0x1 6 prog_1_method_19_code,
    Lib.HandJ.method "fitting" "(I)I" [.int] (some .int) 0x1 4 prog_1_method_20_code,
    Lib.HandJ.method "isKept" "(I)Z" [.int] (some .boolean) 0x1 2 prog_1_method_21_code,
    Lib.HandJ.method "largest" "()I" [] (some .int) 0x1 4 prog_1_method_22_code,
    Lib.HandJ.method "ranked" "(I)I" [.int] (some .int) 0x1 3 prog_1_method_23_code,
    Lib.HandJ.method "isTold" "()Z" [] (some .boolean) 0x1 3 prog_1_method_24_code,
    Lib.HandJ.method "append" "(C)I" [.char] (some .int) 0x1 2 prog_1_method_25_code,
    Lib.HandJ.method "run" "()I" [] (some .int) 0x1 6 prog_1_method_26_code,
    Lib.HandJ.method "faultPosition" "()I" [] (some .int) 0x1 1 prog_1_method_27_code,
    Lib.HandJ.method "reason" "(IZ)I" [.int, .boolean] (some .int) 0x1 4 prog_1_method_28_code,
    Lib.HandJ.method "tell" "(I)I" [.int] (some .int) 0x1 2 prog_1_method_29_code,
    Lib.HandJ.method "tellKept" "(I)I" [.int] (some .int) 0x1 3 prog_1_method_31_code,
    Lib.HandJ.method "tellTerm" "(I)I" [.int] (some .int) 0x1 3 prog_1_method_32_code,
    Lib.HandJ.method "character" "(I)C" [.int] (some .char) 0x1 2 prog_1_method_33_code,
    Lib.HandJ.method "account" "(I)I" [.int] (some .int) 0x1 2 prog_1_method_34_code,
    Lib.HandJ.method "meanSize" "()D" [] (some .double) 0x1 4 prog_1_method_35_code,
    Lib.HandJ.method "typedShare" "()F" [] (some .float) 0x1 1 prog_1_method_36_code,
    Lib.HandJ.method "undo" "()I" [] (some .int) 0x1 1 prog_1_method_37_code,
    Lib.HandJ.method "save" "()I" [] (some .int) 0x1 1 prog_1_method_38_code,
    Lib.HandJ.method "restore" "()I" [] (some .int) 0x1 1 prog_1_method_39_code,
    Lib.HandJ.method "dropLesson" "(I)I" [.int] (some .int) 0x2 3 prog_1_method_40_code,
    Lib.HandJ.method "keepType" "(II)I" [.int, .int] (some .int) 0x2 4 prog_1_method_41_code,
    Lib.HandJ.method "unkeepType" "(I)I" [.int] (some .int) 0x2 3 prog_1_method_42_code,
    Lib.HandJ.method "refuse" "(II)I" [.int, .int] (some .int) 0x2 3 prog_1_method_43_code,
    Lib.HandJ.method "termOf" "(I)LTypeTutor$Term;" [.int] (some (.object "TypeTutor$Term")) 0x2 3 prog_1_method_44_code,
    Lib.HandJ.method "termWith" "(II)LTypeTutor$Term;" [.int, .int] (some (.object "TypeTutor$Term")) 0x2 4 prog_1_method_45_code,
    Lib.HandJ.method "needMeasure" "(I)V" [.int] none 0xa 1 prog_1_method_46_code,
    Lib.HandJ.method "needCapital" "(I)V" [.int] none 0xa 1 prog_1_method_47_code,
    Lib.HandJ.method "needType" "(LTypeTutor$Term;LTypeTutor$Shape;)V" [.object "TypeTutor$Term", .object "TypeTutor$Shape"] none 0x2 3 prog_1_method_48_code,
    Lib.HandJ.method "spells" "(LTypeTutor$Term;LTypeTutor$Shape;)Z" [.object "TypeTutor$Term", .object "TypeTutor$Shape"] (some .boolean) 0x2 3 prog_1_method_49_code,
    Lib.HandJ.method "writeLine" "(LTypeTutor$Shape;)I" [.object "TypeTutor$Shape"] (some .int) 0x2 2 prog_1_method_50_code,
    Lib.HandJ.method "lessonsFailing" "(I)I" [.int] (some .int) 0x2 5 prog_1_method_51_code,
    Lib.HandJ.method "lessonsWithoutVariables" "()I" [] (some .int) 0x2 4 prog_1_method_52_code,
    Lib.HandJ.method "isCapital" "(I)Z" [.int] (some .boolean) 0xa 1 prog_1_method_53_code,
    Lib.HandJ.method "isLetter" "(C)Z" [.char] (some .boolean) 0xa 1 prog_1_method_54_code,
    Lib.HandJ.method "isCapitalSign" "(C)Z" [.char] (some .boolean) 0xa 1 prog_1_method_55_code,
    Lib.HandJ.method "isDigit" "(C)Z" [.char] (some .boolean) 0xa 1 prog_1_method_56_code,
    Lib.HandJ.method "signAt" "(Ljava/lang/StringBuilder;I)C" [.object "java/lang/StringBuilder", .int] (some .char) 0xa 2 prog_1_method_57_code,
    Lib.HandJ.method "at" "([II)I" [.array .int, .int] (some .int) 0xa 2 prog_1_method_58_code,
    Lib.HandJ.method "put" "([III)V" [.array .int, .int, .int] none 0xa 3 prog_1_method_59_code] }
/-! ALONE the witness, part 2, behind start1.mLaw -/
def start1.c3 : Class := { su_own "java/lang/StringUTF16" 0x30
    [(1, 11, "java/lang/StringUTF16", "newBytesLength", "(I)I", 3, 1),
     (5, 20, "", "", "", 1073741823, 0),
     (0, 44, "java/lang/StringUTF16", "$assertionsDisabled", "Z", 3, 3),
     (1, 48, "java/lang/StringUTF16", "length", "([B)I", 3, 4),
     (0, 59, "java/lang/StringUTF16", "HI_BYTE_SHIFT", "I", 3, 0),
     (0, 63, "java/lang/StringUTF16", "LO_BYTE_SHIFT", "I", 3, 1),
     (1, 67, "java/lang/StringUTF16", "checkIndex", "(I[B)V", 3, 15),
     (1, 71, "java/lang/StringUTF16", "getChar", "([BI)C", 3, 3),
     (1, 96, "java/lang/StringUTF16", "checkBoundsBeginEnd", "(II[B)V", 3, 16),
     (1, 111, "java/lang/StringUTF16", "putChar", "([BII)V", 3, 2),
     (1, 123, "java/lang/StringUTF16", "compress", "([BI[BII)I", 3, 7),
     (1, 126, "java/util/Arrays", "copyOfRange", "([BII)[B", 15, 6),
     (1, 173, "java/lang/StringUTF16", "checkBoundsOffCount", "(II[B)V", 3, 17),
     (1, 241, "java/lang/String", "checkBoundsBeginEnd", "(III)V", 29, 11),
     (1, 380, "java/util/Arrays", "fill", "([BIIB)V", 15, 2),
     (1, 393, "java/lang/StringUTF16", "getChars", "(II[B)I", 3, 14),
     (0, 403, "java/lang/Integer", "DigitOnes", "[B", 34, 6),
     (0, 407, "java/lang/Integer", "DigitTens", "[B", 34, 5),
     (1, 414, "java/lang/String", "checkIndex", "(II)V", 29, 9),
     (1, 419, "java/lang/String", "checkBoundsOffCount", "(III)I", 29, 10)]
    [] (Lib.HandJ.method "newBytesFor" "(I)[B" [.int] (some (.array .byte)) 0x9 1 prog_35_method_2_code) with
  methods := #[Lib.HandJ.method "newBytesFor" "(I)[B" [.int] (some (.array .byte)) 0x9 1 prog_35_method_2_code,
    Lib.HandJ.method "newBytesLength" "(I)I" [.int] (some .int) 0x9 1 prog_35_method_3_code,
    Lib.HandJ.method "putChar" "([BII)V" [.array .byte, .int, .int] none 0x8 3 prog_35_method_4_code,
    Lib.HandJ.method "getChar" "([BI)C" [.array .byte, .int] (some .char) 0x8 2 prog_35_method_5_code,
    Lib.HandJ.method "length" "([B)I" [.array .byte] (some .int) 0x9 1 prog_35_method_6_code,
    Lib.HandJ.method "coderFromArrayLen" "([BI)B" [.array .byte, .int] (some .byte) 0x8 2 prog_35_method_15_code,
    Lib.HandJ.method "compress" "([BII)[B" [.array .byte, .int, .int] (some (.array .byte)) 0x9 6 prog_35_method_17_code,
    Lib.HandJ.method "compress" "([BI[BII)I" [.array .byte, .int, .array .byte, .int, .int] (some .int) 0x9 7 prog_35_method_22_code,
    Lib.HandJ.method "fillNull" "([BII)V" [.array .byte, .int, .int] none 0x9 3 prog_35_method_70_code,
    Lib.HandJ.method "putCharSB" "([BII)V" [.array .byte, .int, .int] none 0x9 3 prog_35_method_71_code,
    Lib.HandJ.method "getChars" "(III[B)I" [.int, .int, .int, .array .byte] (some .int) 0x9 5 prog_35_method_77_code,
    Lib.HandJ.method "putCharsAt" "([BICCCC)I" [.array .byte, .int, .char, .char, .char, .char] (some .int) 0x9 7 prog_35_method_81_code,
    Lib.HandJ.method "charAt" "([BI)C" [.array .byte, .int] (some .char) 0x9 2 prog_35_method_83_code,
    Lib.HandJ.method "inflate" "([BI[BII)V" [.array .byte, .int, .array .byte, .int, .int] none 0x9 6 prog_35_method_86_code,
    Lib.HandJ.method "getChars" "(II[B)I" [.int, .int, .array .byte] (some .int) 0x8 7 prog_35_method_89_code,
    Lib.HandJ.method "checkIndex" "(I[B)V" [.int, .array .byte] none 0x9 2 prog_35_method_91_code,
    Lib.HandJ.method "checkBoundsBeginEnd" "(II[B)V" [.int, .int, .array .byte] none 0x9 3 prog_35_method_93_code,
    Lib.HandJ.method "checkBoundsOffCount" "(II[B)V" [.int, .int, .array .byte] none 0x9 3 prog_35_method_94_code],
  fields := (Lib.HandW.fieldsFrom [] 0).toArray ++ #[{ name := "HI_BYTE_SHIFT", type := .int, accessFlags := 0x1a, slot := 0, constantValue := 0 }, { name := "LO_BYTE_SHIFT", type := .int, accessFlags := 0x1a, slot := 1, constantValue := 0 }, { name := "MAX_LENGTH", type := .int, accessFlags := 0x18, slot := 2, constantValue := 0 }, { name := "$assertionsDisabled", type := .boolean, accessFlags := 0x1018, slot := 3, constantValue := 0 }],
  staticTypes := #[.int, .int, .int, .boolean],
  statics := some 1 }
def start1.c4 : Class := { su_own "TypeTutor$TermReader" 0x30
    [(1, 3, "java/lang/Object", "<init>", "()V", 1, 0),
     (0, 9, "TypeTutor$TermReader", "open", "[I", 4, 0),
     (0, 15, "TypeTutor$TermReader", "waiting", "[I", 4, 2),
     (0, 18, "TypeTutor$TermReader", "openCount", "I", 4, 1),
     (1, 22, "java/lang/StringBuilder", "length", "()I", 32, 7),
     (1, 28, "java/lang/StringBuilder", "charAt", "(I)C", 32, 5),
     (1, 32, "TypeTutor$TermReader", "placeBehind", "(IC)I", 4, 2),
     (1, 36, "TypeTutor$TermReader", "placeBehindPart", "(C)I", 4, 3),
     (1, 40, "TypeTutor", "isLetter", "(C)Z", 2, 52),
     (1, 44, "TypeTutor$TermReader", "placeInside", "(C)I", 4, 4),
     (1, 47, "TypeTutor$TermReader", "placeOutside", "(CI)I", 4, 5),
     (1, 51, "TypeTutor$TermReader", "kindOf", "(C)I", 4, 6),
     (1, 54, "TypeTutor", "put", "([III)V", 2, 57),
     (1, 58, "TypeTutor", "at", "([II)I", 2, 56),
     (1, 62, "TypeTutor", "isCapitalSign", "(C)Z", 2, 53),
     (1, 65, "TypeTutor", "isDigit", "(C)Z", 2, 54),
     (2, 68, "TypeTutor$Term", "", "", 19, 0),
     (1, 70, "TypeTutor$Term", "<init>", "(I)V", 19, 0),
     (0, 73, "TypeTutor$TermReader", "waitingCount", "I", 4, 3),
     (1, 76, "TypeTutor$TermReader", "partsFrom", "(Ljava/lang/StringBuilder;I)I", 4, 8),
     (1, 80, "TypeTutor$TermReader", "addApplications", "(LTypeTutor$Term;I)V", 4, 9),
     (1, 84, "TypeTutor", "signAt", "(Ljava/lang/StringBuilder;I)C", 2, 55),
     (1, 88, "TypeTutor$TermReader", "addNode", "(LTypeTutor$Term;ICI)V", 4, 10),
     (1, 92, "TypeTutor$TermReader", "finish", "(LTypeTutor$Term;)V", 4, 11),
     (0, 96, "TypeTutor$Term", "count", "I", 19, 1),
     (1, 99, "TypeTutor$Term", "set", "(III)V", 19, 3),
     (1, 103, "TypeTutor$Term", "of", "(II)I", 19, 2),
     (1, 107, "TypeTutor$Term", "binderOf", "(I)I", 19, 6)]
    [("open", .array .int, 0x12), ("openCount", .int, 0x2), ("waiting", .array .int, 0x12), ("waitingCount", .int, 0x2)] (Lib.HandJ.method "<init>" "()V" [] none 0x2 1 prog_10_method_1_code) with
  methods := #[Lib.HandJ.method "<init>" "()V" [] none 0x2 1 prog_10_method_1_code,
    Lib.HandJ.method "faultIn" "(Ljava/lang/StringBuilder;)I" [.object "java/lang/StringBuilder"] (some .int) 0x2 4 prog_10_method_2_code,
    Lib.HandJ.method "placeBehind" "(IC)I" [.int, .char] (some .int) 0x2 3 prog_10_method_3_code,
    Lib.HandJ.method "placeBehindPart" "(C)I" [.char] (some .int) 0x2 2 prog_10_method_4_code,
    Lib.HandJ.method "placeInside" "(C)I" [.char] (some .int) 0x2 2 prog_10_method_5_code,
    Lib.HandJ.method "placeOutside" "(CI)I" [.char, .int] (some .int) 0x2 3 prog_10_method_6_code,
    Lib.HandJ.method "kindOf" "(C)I" [.char] (some .int) 0xa 1 prog_10_method_7_code,
    Lib.HandJ.method "read" "(Ljava/lang/StringBuilder;)LTypeTutor$Term;" [.object "java/lang/StringBuilder"] (some (.object "TypeTutor$Term")) 0x2 7 prog_10_method_8_code,
    Lib.HandJ.method "partsFrom" "(Ljava/lang/StringBuilder;I)I" [.object "java/lang/StringBuilder", .int] (some .int) 0xa 6 prog_10_method_9_code,
    Lib.HandJ.method "addApplications" "(LTypeTutor$Term;I)V" [.object "TypeTutor$Term", .int] none 0x2 4 prog_10_method_10_code,
    Lib.HandJ.method "addNode" "(LTypeTutor$Term;ICI)V" [.object "TypeTutor$Term", .int, .char, .int] none 0x2 9 prog_10_method_11_code,
    Lib.HandJ.method "finish" "(LTypeTutor$Term;)V" [.object "TypeTutor$Term"] none 0xa 3 prog_10_method_12_code],
  nestHost := some 2 }
def start1.c5 : Class := { su_own "TypeTutor$Finder" 0x30
    [(1, 3, "java/lang/Object", "<init>", "()V", 1, 0),
     (2, 9, "TypeTutor$Types", "", "", 6, 0),
     (1, 11, "TypeTutor$Types", "<init>", "()V", 6, 0),
     (0, 12, "TypeTutor$Finder", "types", "LTypeTutor$Types;", 5, 0),
     (2, 18, "TypeTutor$Path", "", "", 7, 0),
     (1, 20, "TypeTutor$Path", "<init>", "()V", 7, 0),
     (0, 21, "TypeTutor$Finder", "path", "LTypeTutor$Path;", 5, 1),
     (0, 25, "TypeTutor$Finder", "found", "[I", 5, 2),
     (0, 29, "TypeTutor$Finder", "variableOf", "[I", 5, 3),
     (0, 32, "TypeTutor$Finder", "schemeOf", "[I", 5, 4),
     (2, 35, "TypeTutor$Shape", "", "", 8, 0),
     (0, 37, "TypeTutor$Finder", "schemes", "[LTypeTutor$Shape;", 5, 5),
     (1, 41, "TypeTutor$Finder", "begin", "(Z)V", 5, 2),
     (5, 45, "", "", "", 1000000, 0),
     (1, 46, "TypeTutor$Finder", "isGoing", "()Z", 5, 3),
     (0, 50, "TypeTutor$Types", "pairs", "I", 6, 9),
     (1, 54, "TypeTutor$Types", "matchNext", "()I", 6, 6),
     (1, 58, "TypeTutor$Finder", "failFitting", "(I)V", 5, 10),
     (1, 62, "TypeTutor$Path", "node", "()I", 7, 2),
     (1, 65, "TypeTutor$Finder", "goOn", "(LTypeTutor$Term;LTypeTutor$State;I)V", 5, 7),
     (0, 69, "TypeTutor$Term", "count", "I", 19, 1),
     (0, 74, "TypeTutor$Finder", "reasonFound", "I", 5, 10),
     (0, 77, "TypeTutor$Finder", "isAgain", "Z", 5, 7),
     (1, 81, "TypeTutor", "at", "([II)I", 2, 56),
     (1, 85, "TypeTutor$Types", "sizeOf", "(I)I", 6, 12),
     (1, 89, "TypeTutor$Finder", "fail", "(II)V", 5, 9),
     (0, 93, "TypeTutor$Finder", "gone", "I", 5, 9),
     (1, 96, "TypeTutor$Types", "clear", "()V", 6, 1),
     (0, 99, "TypeTutor$Finder", "schemeCount", "I", 5, 6),
     (0, 102, "TypeTutor$Finder", "where", "I", 5, 11),
     (0, 105, "TypeTutor$Finder", "partOne", "I", 5, 12),
     (0, 108, "TypeTutor$Finder", "partTwo", "I", 5, 13),
     (0, 111, "TypeTutor$Path", "count", "I", 7, 3),
     (1, 112, "TypeTutor$Path", "enter", "(I)V", 7, 1),
     (0, 115, "TypeTutor$Finder", "result", "I", 5, 8),
     (1, 118, "TypeTutor$Types", "spell", "(ILTypeTutor$Shape;I)V", 6, 13),
     (1, 122, "TypeTutor$Types", "add", "(II)I", 6, 2),
     (1, 126, "TypeTutor$Types", "make", "(LTypeTutor$Shape;)I", 6, 15),
     (1, 130, "TypeTutor$Types", "addPair", "(III)V", 6, 5),
     (1, 134, "TypeTutor$Path", "takeStage", "()I", 7, 3),
     (1, 137, "TypeTutor$Term", "of", "(II)I", 19, 2),
     (1, 140, "TypeTutor$Finder", "goName", "(LTypeTutor$Term;II)V", 5, 11),
     (1, 144, "TypeTutor$State", "keptAt", "(I)LTypeTutor$Shape;", 9, 3),
     (1, 150, "TypeTutor$Finder", "goKept", "(ILTypeTutor$Shape;)V", 5, 12),
     (1, 154, "TypeTutor$Finder", "end", "(II)V", 5, 8),
     (1, 157, "TypeTutor$Types", "ofSign", "(I)I", 6, 16),
     (1, 160, "TypeTutor$Finder", "goFunction", "(LTypeTutor$Term;II)V", 5, 13),
     (1, 163, "TypeTutor$Finder", "goLet", "(LTypeTutor$Term;II)V", 5, 14),
     (1, 166, "TypeTutor$Finder", "goApplication", "(LTypeTutor$Term;II)V", 5, 15),
     (1, 169, "TypeTutor", "put", "([III)V", 2, 57),
     (1, 173, "TypeTutor$Path", "leave", "()V", 7, 6),
     (0, 176, "TypeTutor$Types", "partOne", "I", 6, 13),
     (0, 177, "TypeTutor$Types", "partTwo", "I", 6, 14),
     (1, 178, "TypeTutor$Finder", "scheme", "(I)LTypeTutor$Shape;", 5, 16),
     (1, 181, "TypeTutor$Types", "newMark", "()I", 6, 8),
     (1, 184, "TypeTutor$Term", "parentOf", "(I)I", 19, 4),
     (1, 187, "TypeTutor$Types", "markAll", "(II)V", 6, 9),
     (1, 190, "TypeTutor$Path", "hold", "(I)V", 7, 4),
     (1, 193, "TypeTutor$Path", "holding", "()I", 7, 5),
     (1, 196, "java/lang/Math", "max", "(II)I", 11, 1),
     (1, 201, "TypeTutor$Shape", "<init>", "(I)V", 8, 0)]
    [("types", .object "TypeTutor$Types", 0x12), ("path", .object "TypeTutor$Path", 0x12), ("found", .array .int, 0x12), ("variableOf", .array .int, 0x12), ("schemeOf", .array .int, 0x12), ("schemes", .array (.object "TypeTutor$Shape"), 0x12), ("schemeCount", .int, 0x2), ("isAgain", .boolean, 0x2), ("result", .int, 0x2), ("gone", .int, 0x2), ("reasonFound", .int, 0x2), ("where", .int, 0x2), ("partOne", .int, 0x2), ("partTwo", .int, 0x2)] (Lib.HandJ.method "<init>" "()V" [] none 0x2 1 prog_2_method_1_code) with
  methods := #[Lib.HandJ.method "<init>" "()V" [] none 0x2 1 prog_2_method_1_code,
    Lib.HandJ.method "goThrough" "(LTypeTutor$Term;LTypeTutor$State;Z)Z" [.object "TypeTutor$Term", .object "TypeTutor$State", .boolean] (some .boolean) 0x2 6 prog_2_method_2_code,
    Lib.HandJ.method "begin" "(Z)V" [.boolean] none 0x2 2 prog_2_method_3_code,
    Lib.HandJ.method "isGoing" "()Z" [] (some .boolean) 0x2 1 prog_2_method_4_code,
    Lib.HandJ.method "spellWhole" "(LTypeTutor$Shape;)V" [.object "TypeTutor$Shape"] none 0x2 2 prog_2_method_5_code,
    Lib.HandJ.method "spellNode" "(ILTypeTutor$Shape;)V" [.int, .object "TypeTutor$Shape"] none 0x2 3 prog_2_method_6_code,
    Lib.HandJ.method "sizeApplied" "(LTypeTutor$Shape;LTypeTutor$Shape;)I" [.object "TypeTutor$Shape", .object "TypeTutor$Shape"] (some .int) 0x2 6 prog_2_method_7_code,
    Lib.HandJ.method "goOn" "(LTypeTutor$Term;LTypeTutor$State;I)V" [.object "TypeTutor$Term", .object "TypeTutor$State", .int] none 0x2 6 prog_2_method_8_code,
    Lib.HandJ.method "end" "(II)V" [.int, .int] none 0x2 3 prog_2_method_9_code,
    Lib.HandJ.method "fail" "(II)V" [.int, .int] none 0x2 3 prog_2_method_10_code,
    Lib.HandJ.method "failFitting" "(I)V" [.int] none 0x2 2 prog_2_method_11_code,
    Lib.HandJ.method "goName" "(LTypeTutor$Term;II)V" [.object "TypeTutor$Term", .int, .int] none 0x2 5 prog_2_method_12_code,
    Lib.HandJ.method "goKept" "(ILTypeTutor$Shape;)V" [.int, .object "TypeTutor$Shape"] none 0x2 3 prog_2_method_13_code,
    Lib.HandJ.method "goFunction" "(LTypeTutor$Term;II)V" [.object "TypeTutor$Term", .int, .int] none 0x2 4 prog_2_method_14_code,
    Lib.HandJ.method "goLet" "(LTypeTutor$Term;II)V" [.object "TypeTutor$Term", .int, .int] none 0x2 6 prog_2_method_15_code,
    Lib.HandJ.method "goApplication" "(LTypeTutor$Term;II)V" [.object "TypeTutor$Term", .int, .int] none 0x2 5 prog_2_method_16_code,
    Lib.HandJ.method "scheme" "(I)LTypeTutor$Shape;" [.int] (some (.object "TypeTutor$Shape")) 0x2 2 prog_2_method_17_code],
  nestHost := some 2 }
def start1.c6 : Class := { su_own "TypeTutor$Types" 0x30
    [(1, 3, "java/lang/Object", "<init>", "()V", 1, 0),
     (0, 9, "TypeTutor$Types", "from", "[I", 6, 0),
     (0, 15, "TypeTutor$Types", "to", "[I", 6, 1),
     (0, 18, "TypeTutor$Types", "link", "[I", 6, 2),
     (0, 21, "TypeTutor$Types", "mark", "[I", 6, 3),
     (0, 24, "TypeTutor$Types", "ones", "[I", 6, 6),
     (0, 27, "TypeTutor$Types", "others", "[I", 6, 7),
     (0, 30, "TypeTutor$Types", "joins", "[I", 6, 8),
     (0, 33, "TypeTutor$Types", "trail", "[I", 6, 10),
     (0, 36, "TypeTutor$Types", "numbered", "[I", 6, 12),
     (0, 39, "TypeTutor$Types", "count", "I", 6, 4),
     (0, 43, "TypeTutor$Types", "latestMark", "I", 6, 5),
     (0, 46, "TypeTutor$Types", "pairs", "I", 6, 9),
     (1, 49, "TypeTutor$Types", "add", "(II)I", 6, 2),
     (1, 53, "java/util/Arrays", "copyOf", "([II)[I", 15, 4),
     (1, 59, "TypeTutor", "put", "([III)V", 2, 57),
     (1, 63, "TypeTutor", "at", "([II)I", 2, 56),
     (1, 67, "TypeTutor$Types", "known", "(I)I", 6, 3),
     (1, 71, "TypeTutor$Types", "kindOf", "(I)I", 6, 4),
     (1, 74, "TypeTutor$Types", "become", "(II)I", 6, 7),
     (1, 77, "TypeTutor$Types", "addPair", "(III)V", 6, 5),
     (0, 81, "TypeTutor$Types", "partOne", "I", 6, 13),
     (0, 84, "TypeTutor$Types", "partTwo", "I", 6, 14),
     (1, 87, "TypeTutor$Types", "newMark", "()I", 6, 8),
     (1, 91, "TypeTutor$Types", "markAll", "(II)V", 6, 9),
     (0, 95, "TypeTutor$Types", "trailCount", "I", 6, 11),
     (1, 98, "TypeTutor$Types", "addTrail", "(I)V", 6, 10),
     (5, 102, "", "", "", 1000000, 0),
     (1, 103, "TypeTutor$Types", "takeTrail", "()I", 6, 11),
     (0, 106, "TypeTutor$Shape", "length", "I", 8, 1),
     (1, 111, "TypeTutor$Shape", "add", "(I)V", 8, 1),
     (1, 113, "TypeTutor$Types", "numberOf", "(II)I", 6, 14),
     (1, 116, "java/lang/Math", "max", "(II)I", 11, 1),
     (1, 121, "java/util/Arrays", "fill", "([II)V", 15, 1),
     (1, 125, "TypeTutor$Shape", "sign", "(I)I", 8, 2)]
    [("from", .array .int, 0x2), ("to", .array .int, 0x2), ("link", .array .int, 0x2), ("mark", .array .int, 0x2), ("count", .int, 0x2), ("latestMark", .int, 0x2), ("ones", .array .int, 0x2), ("others", .array .int, 0x2), ("joins", .array .int, 0x2), ("pairs", .int, 0x2), ("trail", .array .int, 0x2), ("trailCount", .int, 0x2), ("numbered", .array .int, 0x12), ("partOne", .int, 0x2), ("partTwo", .int, 0x2)] (Lib.HandJ.method "<init>" "()V" [] none 0x2 1 prog_11_method_1_code) with
  methods := #[Lib.HandJ.method "<init>" "()V" [] none 0x2 1 prog_11_method_1_code,
    Lib.HandJ.method "clear" "()V" [] none 0x2 1 prog_11_method_2_code,
    Lib.HandJ.method "add" "(II)I" [.int, .int] (some .int) 0x2 3 prog_11_method_3_code,
    Lib.HandJ.method "known" "(I)I" [.int] (some .int) 0x2 4 prog_11_method_4_code,
    Lib.HandJ.method "kindOf" "(I)I" [.int] (some .int) 0x2 2 prog_11_method_5_code,
    Lib.HandJ.method "addPair" "(III)V" [.int, .int, .int] none 0x2 4 prog_11_method_6_code,
    Lib.HandJ.method "matchNext" "()I" [] (some .int) 0x2 5 prog_11_method_7_code,
    Lib.HandJ.method "become" "(II)I" [.int, .int] (some .int) 0x2 3 prog_11_method_8_code,
    Lib.HandJ.method "newMark" "()I" [] (some .int) 0x2 1 prog_11_method_9_code,
    Lib.HandJ.method "markAll" "(II)V" [.int, .int] none 0x2 5 prog_11_method_10_code,
    Lib.HandJ.method "addTrail" "(I)V" [.int] none 0x2 2 prog_11_method_11_code,
    Lib.HandJ.method "takeTrail" "()I" [] (some .int) 0x2 1 prog_11_method_12_code,
    Lib.HandJ.method "sizeOf" "(I)I" [.int] (some .int) 0x2 4 prog_11_method_13_code,
    Lib.HandJ.method "spell" "(ILTypeTutor$Shape;I)V" [.int, .object "TypeTutor$Shape", .int] none 0x2 9 prog_11_method_14_code,
    Lib.HandJ.method "numberOf" "(II)I" [.int, .int] (some .int) 0x2 4 prog_11_method_15_code,
    Lib.HandJ.method "make" "(LTypeTutor$Shape;)I" [.object "TypeTutor$Shape"] (some .int) 0x2 6 prog_11_method_16_code,
    Lib.HandJ.method "ofSign" "(I)I" [.int] (some .int) 0x2 3 prog_11_method_17_code],
  nestHost := some 2 }
def start1.c7 : Class := { su_own "TypeTutor$Path" 0x30
    [(1, 3, "java/lang/Object", "<init>", "()V", 1, 0),
     (0, 9, "TypeTutor$Path", "nodes", "[I", 7, 0),
     (0, 15, "TypeTutor$Path", "stages", "[I", 7, 1),
     (0, 18, "TypeTutor$Path", "held", "[I", 7, 2),
     (0, 21, "TypeTutor$Path", "count", "I", 7, 3),
     (1, 25, "TypeTutor", "put", "([III)V", 2, 57),
     (1, 29, "TypeTutor", "at", "([II)I", 2, 56)]
    [("nodes", .array .int, 0x12), ("stages", .array .int, 0x12), ("held", .array .int, 0x12), ("count", .int, 0x2)] (Lib.HandJ.method "<init>" "()V" [] none 0x2 1 prog_5_method_1_code) with
  methods := #[Lib.HandJ.method "<init>" "()V" [] none 0x2 1 prog_5_method_1_code,
    Lib.HandJ.method "enter" "(I)V" [.int] none 0x2 2 prog_5_method_2_code,
    Lib.HandJ.method "node" "()I" [] (some .int) 0x2 1 prog_5_method_3_code,
    Lib.HandJ.method "takeStage" "()I" [] (some .int) 0x2 2 prog_5_method_4_code,
    Lib.HandJ.method "hold" "(I)V" [.int] none 0x2 2 prog_5_method_5_code,
    Lib.HandJ.method "holding" "()I" [] (some .int) 0x2 1 prog_5_method_6_code,
    Lib.HandJ.method "leave" "()V" [] none 0x2 1 prog_5_method_7_code],
  nestHost := some 2 }
def start1.c8 : Class := { su_own "TypeTutor$Shape" 0x30
    [(1, 3, "java/lang/Object", "<init>", "()V", 1, 0),
     (0, 9, "TypeTutor$Shape", "signs", "[I", 8, 0),
     (2, 10, "TypeTutor$Shape", "", "", 8, 0),
     (0, 15, "TypeTutor$Shape", "length", "I", 8, 1),
     (1, 19, "TypeTutor", "put", "([III)V", 2, 57),
     (1, 23, "TypeTutor", "at", "([II)I", 2, 56),
     (1, 27, "TypeTutor$Shape", "<init>", "(I)V", 8, 0),
     (1, 30, "TypeTutor$Shape", "sign", "(I)I", 8, 2),
     (1, 34, "TypeTutor$Shape", "add", "(I)V", 8, 1),
     (1, 37, "TypeTutor$Shape", "arrows", "()I", 8, 5),
     (1, 41, "TypeTutor$Shape", "variables", "()I", 8, 6),
     (1, 44, "TypeTutor$Shape", "order", "()I", 8, 7),
     (1, 47, "TypeTutor$Shape", "places", "()I", 8, 8),
     (1, 50, "java/lang/Math", "max", "(II)I", 11, 1),
     (1, 56, "java/util/Arrays", "fill", "([II)V", 15, 1),
     (1, 62, "TypeTutor$Shape", "isRepeated", "(II)Z", 8, 11),
     (1, 66, "TypeTutor$Shape", "endOf", "(I)I", 8, 12),
     (1, 69, "java/lang/StringBuilder", "append", "(C)Ljava/lang/StringBuilder;", 32, 2),
     (1, 75, "TypeTutor$Shape", "writeSign", "(ILjava/lang/StringBuilder;)V", 8, 14),
     (1, 79, "java/lang/Math", "floorMod", "(II)I", 11, 0),
     (1, 82, "java/lang/StringBuilder", "append", "(I)Ljava/lang/StringBuilder;", 32, 3)]
    [("signs", .array .int, 0x12), ("length", .int, 0x2)] (Lib.HandJ.method "<init>" "(I)V" [.int] none 0x2 2 prog_7_method_1_code) with
  methods := #[Lib.HandJ.method "<init>" "(I)V" [.int] none 0x2 2 prog_7_method_1_code,
    Lib.HandJ.method "add" "(I)V" [.int] none 0x2 2 prog_7_method_2_code,
    Lib.HandJ.method "sign" "(I)I" [.int] (some .int) 0x2 2 prog_7_method_3_code,
    Lib.HandJ.method "copy" "()LTypeTutor$Shape;" [] (some (.object "TypeTutor$Shape")) 0x2 3 prog_7_method_4_code,
    Lib.HandJ.method "measure" "(I)I" [.int] (some .int) 0x2 2 prog_7_method_5_code,
    Lib.HandJ.method "arrows" "()I" [] (some .int) 0x2 3 prog_7_method_6_code,
    Lib.HandJ.method "variables" "()I" [] (some .int) 0x2 3 prog_7_method_7_code,
    Lib.HandJ.method "order" "()I" [] (some .int) 0x2 4 prog_7_method_8_code,
    Lib.HandJ.method "places" "()I" [] (some .int) 0x2 4 prog_7_method_9_code,
    Lib.HandJ.method "isSame" "(LTypeTutor$Shape;)Z" [.object "TypeTutor$Shape"] (some .boolean) 0x2 3 prog_7_method_10_code,
    Lib.HandJ.method "becomes" "(LTypeTutor$Shape;)Z" [.object "TypeTutor$Shape"] (some .boolean) 0x2 6 prog_7_method_11_code,
    Lib.HandJ.method "isRepeated" "(II)Z" [.int, .int] (some .boolean) 0x2 5 prog_7_method_12_code,
    Lib.HandJ.method "endOf" "(I)I" [.int] (some .int) 0x2 4 prog_7_method_13_code,
    Lib.HandJ.method "write" "(Ljava/lang/StringBuilder;)V" [.object "java/lang/StringBuilder"] none 0x2 4 prog_7_method_14_code,
    Lib.HandJ.method "writeSign" "(ILjava/lang/StringBuilder;)V" [.int, .object "java/lang/StringBuilder"] none 0xa 3 prog_7_method_15_code],
  nestHost := some 2 }
def start1.c9 : Class := { su_own "TypeTutor$State" 0x30
    [(1, 3, "java/lang/Object", "<init>", "()V", 1, 0),
     (2, 9, "TypeTutor$Term", "", "", 19, 0),
     (0, 11, "TypeTutor$State", "terms", "[LTypeTutor$Term;", 9, 0),
     (2, 17, "TypeTutor$Shape", "", "", 8, 0),
     (0, 19, "TypeTutor$State", "kept", "[LTypeTutor$Shape;", 9, 1),
     (1, 23, "TypeTutor$State", "termAt", "(I)LTypeTutor$Term;", 9, 2),
     (1, 27, "TypeTutor$State", "keptAt", "(I)LTypeTutor$Shape;", 9, 3),
     (0, 31, "TypeTutor$State", "count", "I", 9, 2),
     (0, 35, "TypeTutor$State", "given", "I", 9, 3),
     (0, 38, "TypeTutor$State", "everKept", "I", 9, 4),
     (1, 41, "java/lang/Math", "max", "(II)I", 11, 1),
     (0, 47, "TypeTutor$Term", "count", "I", 19, 1),
     (1, 48, "TypeTutor$State", "nodesOf", "(I)I", 9, 8)]
    [("terms", .array (.object "TypeTutor$Term"), 0x12), ("kept", .array (.object "TypeTutor$Shape"), 0x12), ("count", .int, 0x2), ("given", .int, 0x2), ("everKept", .int, 0x2)] (Lib.HandJ.method "<init>" "()V" [] none 0x2 1 prog_8_method_1_code) with
  methods := #[Lib.HandJ.method "<init>" "()V" [] none 0x2 1 prog_8_method_1_code,
    Lib.HandJ.method "take" "(LTypeTutor$State;)V" [.object "TypeTutor$State"] none 0x2 3 prog_8_method_2_code,
    Lib.HandJ.method "termAt" "(I)LTypeTutor$Term;" [.int] (some (.object "TypeTutor$Term")) 0x2 2 prog_8_method_3_code,
    Lib.HandJ.method "keptAt" "(I)LTypeTutor$Shape;" [.int] (some (.object "TypeTutor$Shape")) 0x2 2 prog_8_method_4_code,
    Lib.HandJ.method "give" "(LTypeTutor$Term;)I" [.object "TypeTutor$Term"] (some .int) 0x2 3 prog_8_method_5_code,
    Lib.HandJ.method "remove" "(I)V" [.int] none 0x2 3 prog_8_method_6_code,
    Lib.HandJ.method "keepAt" "(ILTypeTutor$Shape;)V" [.int, .object "TypeTutor$Shape"] none 0x2 3 prog_8_method_7_code,
    Lib.HandJ.method "emptyAt" "(I)V" [.int] none 0x2 2 prog_8_method_8_code,
    Lib.HandJ.method "nodesOf" "(I)I" [.int] (some .int) 0x2 3 prog_8_method_9_code,
    Lib.HandJ.method "allNodes" "()I" [] (some .int) 0x2 3 prog_8_method_10_code,
    Lib.HandJ.method "capitalsKeeping" "()I" [] (some .int) 0x2 3 prog_8_method_11_code,
    Lib.HandJ.method "placeOf" "(I)I" [.int] (some .int) 0x2 4 prog_8_method_12_code],
  nestHost := some 2 }
def start1.c10 : Class := { su_own "TypeTutor$History" 0x30
    [(1, 3, "java/lang/Object", "<init>", "()V", 1, 0),
     (2, 9, "TypeTutor$State", "", "", 9, 0),
     (0, 11, "TypeTutor$History", "states", "[LTypeTutor$State;", 10, 0),
     (0, 17, "TypeTutor$History", "next", "I", 10, 1),
     (1, 21, "TypeTutor$History", "stateAt", "(I)LTypeTutor$State;", 10, 4),
     (1, 25, "TypeTutor$State", "take", "(LTypeTutor$State;)V", 9, 1),
     (1, 29, "java/lang/Math", "floorMod", "(II)I", 11, 0),
     (0, 35, "TypeTutor$History", "count", "I", 10, 2),
     (1, 38, "java/lang/Math", "min", "(II)I", 11, 2),
     (1, 41, "java/lang/Math", "max", "(II)I", 11, 1),
     (1, 44, "TypeTutor$State", "<init>", "()V", 9, 0)]
    [("states", .array (.object "TypeTutor$State"), 0x12), ("next", .int, 0x2), ("count", .int, 0x2)] (Lib.HandJ.method "<init>" "()V" [] none 0x2 1 prog_3_method_1_code) with
  methods := #[Lib.HandJ.method "<init>" "()V" [] none 0x2 1 prog_3_method_1_code,
    Lib.HandJ.method "push" "(LTypeTutor$State;)V" [.object "TypeTutor$State"] none 0x2 2 prog_3_method_2_code,
    Lib.HandJ.method "pop" "(LTypeTutor$State;)V" [.object "TypeTutor$State"] none 0x2 2 prog_3_method_3_code,
    Lib.HandJ.method "clear" "()V" [] none 0x2 1 prog_3_method_4_code,
    Lib.HandJ.method "stateAt" "(I)LTypeTutor$State;" [.int] (some (.object "TypeTutor$State")) 0x2 2 prog_3_method_5_code],
  nestHost := some 2 }
def start1.c11 : Class := { su_own "java/lang/Math" 0x31
    []
    [] (Lib.HandJ.method "floorMod" "(II)I" [.int, .int] (some .int) 0x9 3 prog_28_method_50_code) with
  methods := #[Lib.HandJ.method "floorMod" "(II)I" [.int, .int] (some .int) 0x9 3 prog_28_method_50_code,
    Lib.HandJ.method "max" "(II)I" [.int, .int] (some .int) 0x9 2 prog_28_method_65_code,
    Lib.HandJ.method "min" "(II)I" [.int, .int] (some .int) 0x9 2 prog_28_method_69_code] }
def start1.c12 : Class := { su_own "TypeTutor$Orders" 0x30
    [(1, 9, "java/lang/StringBuilder", "length", "()I", 32, 7),
     (1, 15, "java/lang/StringBuilder", "charAt", "(I)C", 32, 5),
     (1, 19, "TypeTutor$Orders", "placeBehind", "(IC)I", 12, 1),
     (1, 23, "TypeTutor", "isDigit", "(C)Z", 2, 54),
     (1, 29, "TypeTutor", "isCapitalSign", "(C)Z", 2, 53)]
    [] (Lib.HandJ.method "faultIn" "(Ljava/lang/StringBuilder;)I" [.object "java/lang/StringBuilder"] (some .int) 0xa 3 prog_4_method_2_code) with
  methods := #[Lib.HandJ.method "faultIn" "(Ljava/lang/StringBuilder;)I" [.object "java/lang/StringBuilder"] (some .int) 0xa 3 prog_4_method_2_code,
    Lib.HandJ.method "placeBehind" "(IC)I" [.int, .char] (some .int) 0xa 2 prog_4_method_3_code,
    Lib.HandJ.method "lengthOf" "(C)I" [.char] (some .int) 0xa 1 prog_4_method_4_code],
  nestHost := some 2 }
def start1.c13 : Class := { su_own "jdk/internal/util/Preconditions" 0x21
    []
    [] (Lib.HandJ.method "checkIndex" "(IILjava/util/function/BiFunction;)I" [.int, .int, .object "java/util/function/BiFunction"] (some .int) 0x9 3 prog_44_method_11_code) with
  methods := #[Lib.HandJ.method "checkIndex" "(IILjava/util/function/BiFunction;)I" [.int, .int, .object "java/util/function/BiFunction"] (some .int) 0x9 3 prog_44_method_11_code,
    Lib.HandJ.method "checkFromToIndex" "(IIILjava/util/function/BiFunction;)I" [.int, .int, .int, .object "java/util/function/BiFunction"] (some .int) 0x9 4 prog_44_method_12_code,
    Lib.HandJ.method "checkFromIndexSize" "(IIILjava/util/function/BiFunction;)I" [.int, .int, .int, .object "java/util/function/BiFunction"] (some .int) 0x9 4 prog_44_method_13_code],
  fields := (Lib.HandW.fieldsFrom [] 0).toArray ++ #[{ name := "SIOOBE_FORMATTER", type := .object "java/util/function/BiFunction", accessFlags := 0x19, slot := 0, constantValue := 0 }, { name := "AIOOBE_FORMATTER", type := .object "java/util/function/BiFunction", accessFlags := 0x19, slot := 1, constantValue := 0 }, { name := "IOOBE_FORMATTER", type := .object "java/util/function/BiFunction", accessFlags := 0x19, slot := 2, constantValue := 0 }],
  staticTypes := #[.object "java/util/function/BiFunction", .object "java/util/function/BiFunction", .object "java/util/function/BiFunction"],
  statics := some 2 }
def start1.c14 : Class := { su_own "jdk/internal/util/ArraysSupport" 0x21
    [(1, 194, "java/lang/Math", "max", "(II)I", 11, 1),
     (5, 200, "", "", "", 2147483639, 0),
     (1, 201, "jdk/internal/util/ArraysSupport", "hugeLength", "(II)I", 14, 1)]
    [] (Lib.HandJ.method "newLength" "(III)I" [.int, .int, .int] (some .int) 0x9 4 prog_43_method_27_code) with
  methods := #[Lib.HandJ.method "newLength" "(III)I" [.int, .int, .int] (some .int) 0x9 4 prog_43_method_27_code,
    Lib.HandJ.method "hugeLength" "(II)I" [.int, .int] (some .int) 0xa 3 prog_43_method_28_code] }
def start1.c15 : Class := suRes [(449, .cls 47), (463, .cls 45)] <| { su_own "java/util/Arrays" 0x31
    [(1, 13, "java/util/Arrays", "rangeCheck", "(III)V", 15, 0),
     (2, 43, "java/lang/IllegalArgumentException", "", "", 37, 0),
     (2, 45, "java/lang/StringBuilder", "", "", 32, 0),
     (1, 47, "java/lang/StringBuilder", "<init>", "()V", 32, 0),
     (3, 48, "", "fromIndex(", "", 12, 0),
     (1, 50, "java/lang/StringBuilder", "append", "(Ljava/lang/String;)Ljava/lang/StringBuilder;", 32, 1),
     (1, 54, "java/lang/StringBuilder", "append", "(I)Ljava/lang/StringBuilder;", 32, 3),
     (3, 57, "", ") > toIndex(", "", 14, 0),
     (3, 59, "", ")", "", 16, 0),
     (1, 61, "java/lang/StringBuilder", "toString", "()Ljava/lang/String;", 32, 4),
     (1, 65, "java/lang/IllegalArgumentException", "<init>", "(Ljava/lang/String;)V", 37, 0),
     (2, 68, "java/lang/ArrayIndexOutOfBoundsException", "", "", 43, 0),
     (1, 70, "java/lang/ArrayIndexOutOfBoundsException", "<init>", "(I)V", 43, 1),
     (1, 150, "java/lang/System", "arraycopy", "(Ljava/lang/Object;ILjava/lang/Object;II)V", 16, 0),
     (1, 304, "java/lang/Math", "min", "(II)I", 11, 2),
     (1, 310, "[B", "clone", "()Ljava/lang/Object;", 1, 1),
     (2, 311, "[B", "", "", 47, 0),
     (1, 316, "[I", "clone", "()Ljava/lang/Object;", 1, 1),
     (2, 317, "[I", "", "", 45, 0),
     (3, 337, "", " > ", "", 10, 0),
     (1, 339, "java/util/Arrays", "copyOfRangeByte", "([BII)[B", 15, 7),
     (1, 343, "java/util/Arrays", "checkLength", "(II)V", 15, 5)]
    [] (Lib.HandJ.method "rangeCheck" "(III)V" [.int, .int, .int] none 0x8 3 prog_41_method_30_code) with
  methods := #[Lib.HandJ.method "rangeCheck" "(III)V" [.int, .int, .int] none 0x8 3 prog_41_method_30_code,
    Lib.HandJ.method "fill" "([II)V" [.array .int, .int] none 0x9 4 prog_41_method_103_code,
    Lib.HandJ.method "fill" "([BIIB)V" [.array .byte, .int, .int, .byte] none 0x9 5 prog_41_method_110_code,
    Lib.HandJ.method "copyOf" "([BI)[B" [.array .byte, .int] (some (.array .byte)) 0x9 3 prog_41_method_121_code,
    Lib.HandJ.method "copyOf" "([II)[I" [.array .int, .int] (some (.array .int)) 0x9 3 prog_41_method_123_code,
    Lib.HandJ.method "checkLength" "(II)V" [.int, .int] none 0xa 2 prog_41_method_131_code,
    Lib.HandJ.method "copyOfRange" "([BII)[B" [.array .byte, .int, .int] (some (.array .byte)) 0x9 3 prog_41_method_132_code,
    Lib.HandJ.method "copyOfRangeByte" "([BII)[B" [.array .byte, .int, .int] (some (.array .byte)) 0xa 5 prog_41_method_133_code] }
/-! ALONE the witness, part 3, behind start1.mLaw -/
def start1.c16 : Class := { su_own "java/lang/System" 0x31
    []
    [] ({ name := "arraycopy", desc := "(Ljava/lang/Object;ILjava/lang/Object;II)V", sig := { parameters := [.object "java/lang/Object", .int, .object "java/lang/Object", .int, .int], returnType := none }, accessFlags := 0x109, code := none }) with
  methods := #[{ name := "arraycopy", desc := "(Ljava/lang/Object;ILjava/lang/Object;II)V", sig := { parameters := [.object "java/lang/Object", .int, .object "java/lang/Object", .int, .int], returnType := none }, accessFlags := 0x109, code := none }] }
def start1.c17 : Class := { su_own "java/lang/StringLatin1" 0x30
    [(1, 9, "java/lang/String", "checkIndex", "(II)V", 29, 9),
     (1, 236, "java/util/Arrays", "fill", "([BIIB)V", 15, 2),
     (1, 240, "java/lang/StringUTF16", "inflate", "([BI[BII)V", 3, 13)]
    [] (Lib.HandJ.method "charAt" "([BI)C" [.array .byte, .int] (some .char) 0x9 2 prog_34_method_2_code) with
  methods := #[Lib.HandJ.method "charAt" "([BI)C" [.array .byte, .int] (some .char) 0x9 2 prog_34_method_2_code,
    Lib.HandJ.method "canEncode" "(C)Z" [.char] (some .boolean) 0x9 1 prog_34_method_3_code,
    Lib.HandJ.method "equals" "([B[B)Z" [.array .byte, .array .byte] (some .boolean) 0x9 3 prog_34_method_13_code,
    Lib.HandJ.method "fillNull" "([BII)V" [.array .byte, .int, .int] none 0x9 3 prog_34_method_48_code,
    Lib.HandJ.method "inflate" "([BI[BII)V" [.array .byte, .int, .array .byte, .int, .int] none 0x9 5 prog_34_method_50_code] }
def start1.c18 : Class := { su_own "TypeTutor$Refusal" 0x30
    [(1, 1, "java/lang/Object", "<init>", "()V", 1, 0),
     (0, 7, "TypeTutor$Refusal", "number", "I", 18, 0),
     (0, 13, "TypeTutor$Refusal", "detail", "I", 18, 1),
     (0, 16, "TypeTutor$Refusal", "cause", "LTypeTutor$Refusal;", 18, 2)]
    [("number", .int, 0x12), ("detail", .int, 0x12), ("cause", .object "TypeTutor$Refusal", 0x12)] (Lib.HandJ.method "<init>" "(IILTypeTutor$Refusal;)V" [.int, .int, .object "TypeTutor$Refusal"] none 0x2 4 prog_6_method_1_code) with
  methods := #[Lib.HandJ.method "<init>" "(IILTypeTutor$Refusal;)V" [.int, .int, .object "TypeTutor$Refusal"] none 0x2 4 prog_6_method_1_code],
  nestHost := some 2 }
def start1.c19 : Class := { su_own "TypeTutor$Term" 0x30
    [(1, 3, "java/lang/Object", "<init>", "()V", 1, 0),
     (2, 9, "[[I", "", "", 51, 0),
     (0, 11, "TypeTutor$Term", "rows", "[[I", 19, 0),
     (0, 16, "TypeTutor$Term", "count", "I", 19, 1),
     (1, 20, "TypeTutor$Term", "hasNode", "(I)Z", 19, 1),
     (1, 24, "TypeTutor", "at", "([II)I", 2, 56),
     (1, 28, "TypeTutor", "put", "([III)V", 2, 57),
     (1, 32, "TypeTutor$Term", "of", "(II)I", 19, 2),
     (1, 36, "TypeTutor$Term", "parentOf", "(I)I", 19, 4),
     (1, 40, "TypeTutor$Term", "isBracketed", "(I)Z", 19, 7),
     (1, 43, "java/lang/StringBuilder", "append", "(C)Ljava/lang/StringBuilder;", 32, 2),
     (1, 49, "TypeTutor$Term", "writeEnds", "(ILjava/lang/StringBuilder;)V", 19, 9)]
    [("rows", .array (.array .int), 0x12), ("count", .int, 0x2)] (Lib.HandJ.method "<init>" "(I)V" [.int] none 0x2 2 prog_9_method_1_code) with
  methods := #[Lib.HandJ.method "<init>" "(I)V" [.int] none 0x2 2 prog_9_method_1_code,
    Lib.HandJ.method "hasNode" "(I)Z" [.int] (some .boolean) 0x2 2 prog_9_method_2_code,
    Lib.HandJ.method "of" "(II)I" [.int, .int] (some .int) 0x2 3 prog_9_method_3_code,
    Lib.HandJ.method "set" "(III)V" [.int, .int, .int] none 0x2 4 prog_9_method_4_code,
    Lib.HandJ.method "parentOf" "(I)I" [.int] (some .int) 0x2 3 prog_9_method_5_code,
    Lib.HandJ.method "namesBoundBy" "(I)I" [.int] (some .int) 0x2 4 prog_9_method_6_code,
    Lib.HandJ.method "binderOf" "(I)I" [.int] (some .int) 0x2 6 prog_9_method_7_code,
    Lib.HandJ.method "isBracketed" "(I)Z" [.int] (some .boolean) 0x2 2 prog_9_method_8_code,
    Lib.HandJ.method "write" "(Ljava/lang/StringBuilder;)V" [.object "java/lang/StringBuilder"] none 0x2 4 prog_9_method_9_code,
    Lib.HandJ.method "writeEnds" "(ILjava/lang/StringBuilder;)V" [.int, .object "java/lang/StringBuilder"] none 0x2 5 prog_9_method_10_code],
  nestHost := some 2 }
def start1.c20 : Class := { su_own "TypeTutorLaw$Bits" 0x30
    [(1, 1, "java/lang/Object", "<init>", "()V", 1, 0),
     (0, 7, "TypeTutorLaw$Bits", "bits", "I", 20, 0),
     (5, 13, "", "", "", 1103515245, 0)]
    [("bits", .int, 0x0)] (Lib.HandJ.method "<init>" "(I)V" [.int] none 0x0 2 prog_13_method_1_code) with
  methods := #[Lib.HandJ.method "<init>" "(I)V" [.int] none 0x0 2 prog_13_method_1_code,
    Lib.HandJ.method "next" "(I)I" [.int] (some .int) 0x0 2 prog_13_method_2_code] }
def start1.c21 : Class := { su_own "java/lang/Cloneable" 0x601
    []
    [] mLaw with
  methods := #[] }
def start1.c22 : Class := { su_own "java/lang/Appendable" 0x601
    []
    [] mLaw with
  methods := #[] }
def start1.c23 : Class := { su_own "java/lang/CharSequence" 0x601
    []
    [] mLaw with
  methods := #[] }
def start1.c24 : Class := { su_own "java/io/Serializable" 0x601
    []
    [] mLaw with
  methods := #[] }
def start1.c25 : Class := { su_own "java/lang/Comparable" 0x601
    []
    [] mLaw with
  methods := #[] }
def start1.c26 : Class := { su_own "java/lang/constant/Constable" 0x601
    []
    [] mLaw with
  methods := #[] }
def start1.c27 : Class := { su_own "java/lang/constant/ConstantDesc" 0x601
    []
    [] mLaw with
  methods := #[] }
def start1.c28 : Class := { su_own "java/lang/AbstractStringBuilder" 0x420
    [(1, 3, "java/lang/Object", "<init>", "()V", 1, 0),
     (0, 15, "java/lang/AbstractStringBuilder", "value", "[B", 28, 0),
     (0, 18, "java/lang/String", "COMPACT_STRINGS", "Z", 29, 5),
     (0, 22, "java/lang/AbstractStringBuilder", "coder", "B", 28, 1),
     (1, 26, "java/lang/StringUTF16", "newBytesFor", "(I)[B", 3, 0),
     (1, 32, "java/lang/String", "length", "()I", 29, 1),
     (5, 39, "", "", "", 2147483647, 0),
     (1, 40, "java/lang/String", "coder", "()B", 29, 7),
     (0, 73, "java/lang/AbstractStringBuilder", "maybeLatin1", "Z", 28, 2),
     (0, 79, "java/lang/AbstractStringBuilder", "count", "I", 28, 3),
     (1, 83, "java/lang/AbstractStringBuilder", "isLatin1", "()Z", 28, 12),
     (1, 100, "java/lang/AbstractStringBuilder", "ensureCapacityInternal", "(I)V", 28, 2),
     (1, 104, "java/lang/AbstractStringBuilder", "newCapacity", "(I)I", 28, 3),
     (1, 108, "java/util/Arrays", "copyOf", "([BI)[B", 15, 3),
     (1, 114, "jdk/internal/util/ArraysSupport", "newLength", "(III)I", 14, 0),
     (1, 125, "java/lang/StringLatin1", "inflate", "([BI[BII)V", 17, 4),
     (2, 129, "java/lang/StringIndexOutOfBoundsException", "", "", 42, 0),
     (1, 131, "java/lang/StringIndexOutOfBoundsException", "<init>", "(I)V", 42, 0),
     (1, 133, "java/lang/StringLatin1", "fillNull", "([BII)V", 17, 3),
     (1, 137, "java/lang/StringUTF16", "fillNull", "([BII)V", 3, 8),
     (1, 138, "java/lang/Math", "min", "(II)I", 11, 2),
     (1, 144, "java/lang/String", "checkIndex", "(II)V", 29, 9),
     (1, 148, "java/lang/StringUTF16", "getChar", "([BI)C", 3, 3),
     (1, 191, "java/lang/StringLatin1", "canEncode", "(C)Z", 17, 1),
     (1, 195, "java/lang/AbstractStringBuilder", "inflate", "()V", 28, 4),
     (1, 197, "java/lang/StringUTF16", "putCharSB", "([BII)V", 3, 9),
     (1, 204, "java/lang/AbstractStringBuilder", "appendNull", "()Ljava/lang/AbstractStringBuilder;", 28, 8),
     (1, 208, "java/lang/AbstractStringBuilder", "putStringAt", "(ILjava/lang/String;)V", 28, 14),
     (1, 226, "java/lang/StringUTF16", "putCharsAt", "([BICCCC)I", 3, 11),
     (1, 245, "java/lang/Integer", "stringSize", "(I)I", 34, 1),
     (1, 248, "java/lang/Integer", "getChars", "(II[B)I", 34, 0),
     (1, 251, "java/lang/StringUTF16", "getChars", "(III[B)I", 3, 10),
     (1, 397, "java/lang/AbstractStringBuilder", "inflateIfNeededFor", "(Ljava/lang/String;)V", 28, 13),
     (1, 399, "java/lang/String", "getBytes", "([BIB)V", 29, 5)]
    [("value", .array .byte, 0x0), ("coder", .byte, 0x0), ("maybeLatin1", .boolean, 0x0), ("count", .int, 0x0)] (Lib.HandJ.method "<init>" "(I)V" [.int] none 0x0 2 prog_16_method_2_code) with
  methods := #[Lib.HandJ.method "<init>" "(I)V" [.int] none 0x0 2 prog_16_method_2_code,
    Lib.HandJ.method "length" "()I" [] (some .int) 0x1 1 prog_16_method_6_code,
    Lib.HandJ.method "ensureCapacityInternal" "(I)V" [.int] none 0x2 3 prog_16_method_9_code,
    Lib.HandJ.method "newCapacity" "(I)I" [.int] (some .int) 0x2 6 prog_16_method_10_code,
    Lib.HandJ.method "inflate" "()V" [] none 0x2 2 prog_16_method_11_code,
    Lib.HandJ.method "setLength" "(I)V" [.int] none 0x1 2 prog_16_method_13_code,
    Lib.HandJ.method "charAt" "(I)C" [.int] (some .char) 0x1 5 prog_16_method_14_code,
    Lib.HandJ.method "append" "(Ljava/lang/String;)Ljava/lang/AbstractStringBuilder;" [.object "java/lang/String"] (some (.object "java/lang/AbstractStringBuilder")) 0x1 3 prog_16_method_22_code,
    Lib.HandJ.method "appendNull" "()Ljava/lang/AbstractStringBuilder;" [] (some (.object "java/lang/AbstractStringBuilder")) 0x2 3 prog_16_method_26_code,
    Lib.HandJ.method "append" "(C)Ljava/lang/AbstractStringBuilder;" [.char] (some (.object "java/lang/AbstractStringBuilder")) 0x1 2 prog_16_method_31_code,
    Lib.HandJ.method "append" "(I)Ljava/lang/AbstractStringBuilder;" [.int] (some (.object "java/lang/AbstractStringBuilder")) 0x1 4 prog_16_method_32_code,
    Lib.HandJ.method "getValue" "()[B" [] (some (.array .byte)) 0x10 1 prog_16_method_64_code,
    Lib.HandJ.method "isLatin1" "()Z" [] (some .boolean) 0x10 1 prog_16_method_68_code,
    Lib.HandJ.method "inflateIfNeededFor" "(Ljava/lang/String;)V" [.object "java/lang/String"] none 0x2 2 prog_16_method_71_code,
    Lib.HandJ.method "putStringAt" "(ILjava/lang/String;)V" [.int, .object "java/lang/String"] none 0x2 3 prog_16_method_73_code],
  interfaces := #[22, 23] }
def start1.c29 : Class := { su_own "java/lang/String" 0x31
    [(1, 1, "java/lang/Object", "<init>", "()V", 1, 0),
     (0, 9, "java/lang/String", "value", "[B", 29, 0),
     (2, 10, "java/lang/String", "", "", 29, 0),
     (0, 15, "java/lang/String", "coder", "B", 29, 1),
     (0, 38, "java/lang/String", "COMPACT_STRINGS", "Z", 29, 5),
     (1, 47, "java/lang/StringUTF16", "coderFromArrayLen", "([BI)B", 3, 5),
     (1, 54, "java/util/Arrays", "copyOfRange", "([BII)[B", 15, 6),
     (1, 106, "java/lang/StringLatin1", "inflate", "([BI[BII)V", 17, 4),
     (1, 212, "java/lang/System", "arraycopy", "(Ljava/lang/Object;ILjava/lang/Object;II)V", 16, 0),
     (1, 335, "java/lang/String", "coder", "()B", 29, 7),
     (1, 489, "java/lang/String", "<init>", "(Ljava/lang/AbstractStringBuilder;Ljava/lang/Void;)V", 29, 6),
     (1, 492, "java/lang/String", "isLatin1", "()Z", 29, 8),
     (1, 495, "java/lang/StringLatin1", "charAt", "([BI)C", 17, 0),
     (1, 498, "java/lang/StringUTF16", "charAt", "([BI)C", 3, 12),
     (1, 541, "java/lang/StringLatin1", "equals", "([B[B)Z", 17, 2),
     (1, 549, "java/lang/AbstractStringBuilder", "length", "()I", 28, 1),
     (1, 552, "java/lang/AbstractStringBuilder", "getValue", "()[B", 28, 11),
     (1, 1047, "java/lang/AbstractStringBuilder", "isLatin1", "()Z", 28, 12),
     (0, 1048, "java/lang/AbstractStringBuilder", "maybeLatin1", "Z", 28, 2),
     (1, 1051, "java/lang/StringUTF16", "compress", "([BII)[B", 3, 6),
     (0, 1053, "jdk/internal/util/Preconditions", "SIOOBE_FORMATTER", "Ljava/util/function/BiFunction;", 13, 0),
     (1, 1059, "jdk/internal/util/Preconditions", "checkIndex", "(IILjava/util/function/BiFunction;)I", 13, 0),
     (1, 1062, "jdk/internal/util/Preconditions", "checkFromToIndex", "(IIILjava/util/function/BiFunction;)I", 13, 1),
     (1, 1065, "jdk/internal/util/Preconditions", "checkFromIndexSize", "(IIILjava/util/function/BiFunction;)I", 13, 2)]
    [("value", .array .byte, 0x12), ("coder", .byte, 0x12), ("hash", .int, 0x2), ("hashIsZero", .boolean, 0x2)] (Lib.HandJ.method "<init>" "(Ljava/lang/StringBuilder;)V" [.object "java/lang/StringBuilder"] none 0x1 2 prog_31_method_53_code) with
  methods := #[Lib.HandJ.method "<init>" "(Ljava/lang/StringBuilder;)V" [.object "java/lang/StringBuilder"] none 0x1 2 prog_31_method_53_code,
    Lib.HandJ.method "length" "()I" [] (some .int) 0x1 1 prog_31_method_54_code,
    Lib.HandJ.method "isEmpty" "()Z" [] (some .boolean) 0x1 1 prog_31_method_55_code,
    Lib.HandJ.method "charAt" "(I)C" [.int] (some .char) 0x1 2 prog_31_method_56_code,
    Lib.HandJ.method "equals" "(Ljava/lang/Object;)Z" [.object "java/lang/Object"] (some .boolean) 0x1 3 prog_31_method_66_code,
    Lib.HandJ.method "getBytes" "([BIB)V" [.array .byte, .int, .byte] none 0x0 4 prog_31_method_147_code,
    Lib.HandJ.method "<init>" "(Ljava/lang/AbstractStringBuilder;Ljava/lang/Void;)V" [.object "java/lang/AbstractStringBuilder", .object "java/lang/Void"] none 0x0 5 prog_31_method_150_code,
    Lib.HandJ.method "coder" "()B" [] (some .byte) 0x0 1 prog_31_method_152_code,
    Lib.HandJ.method "isLatin1" "()Z" [] (some .boolean) 0x0 1 prog_31_method_154_code,
    Lib.HandJ.method "checkIndex" "(II)V" [.int, .int] none 0x8 2 prog_31_method_155_code,
    Lib.HandJ.method "checkBoundsOffCount" "(III)I" [.int, .int, .int] (some .int) 0x8 3 prog_31_method_157_code,
    Lib.HandJ.method "checkBoundsBeginEnd" "(III)V" [.int, .int, .int] none 0x8 3 prog_31_method_158_code],
  interfaces := #[24, 25, 23, 26, 27],
  fields := (Lib.HandW.fieldsFrom [("value", .array .byte, 0x12), ("coder", .byte, 0x12), ("hash", .int, 0x2), ("hashIsZero", .boolean, 0x2)] 0).toArray ++ #[{ name := "serialVersionUID", type := .long, accessFlags := 0x1a, slot := 0, constantValue := 0 }, { name := "COMPACT_STRINGS", type := .boolean, accessFlags := 0x18, slot := 1, constantValue := 0 }, { name := "serialPersistentFields", type := .array (.object "java/io/ObjectStreamField"), accessFlags := 0x1a, slot := 2, constantValue := 0 }, { name := "REPL", type := .char, accessFlags := 0x1a, slot := 3, constantValue := 0 }, { name := "CASE_INSENSITIVE_ORDER", type := .object "java/util/Comparator", accessFlags := 0x19, slot := 4, constantValue := 0 }, { name := "LATIN1", type := .byte, accessFlags := 0x18, slot := 5, constantValue := 0 }, { name := "UTF16", type := .byte, accessFlags := 0x18, slot := 6, constantValue := 0 }],
  staticTypes := #[.long, .boolean, .array (.object "java/io/ObjectStreamField"), .char, .object "java/util/Comparator", .byte, .byte],
  statics := some 3 }
def start1.c30 : Class := { su_own "java/lang/Throwable" 0x21
    [(1, 1, "java/lang/Object", "<init>", "()V", 1, 0),
     (0, 7, "java/lang/Throwable", "cause", "Ljava/lang/Throwable;", 30, 2),
     (0, 13, "java/lang/Throwable", "UNASSIGNED_STACK", "[Ljava/lang/StackTraceElement;", 30, 7),
     (0, 17, "java/lang/Throwable", "stackTrace", "[Ljava/lang/StackTraceElement;", 30, 3),
     (0, 20, "java/lang/Throwable", "SUPPRESSED_SENTINEL", "Ljava/util/List;", 30, 8),
     (0, 24, "java/lang/Throwable", "suppressedExceptions", "Ljava/util/List;", 30, 5),
     (1, 27, "java/lang/Throwable", "fillInStackTrace", "()Ljava/lang/Throwable;", 30, 2),
     (0, 31, "java/lang/Throwable", "detailMessage", "Ljava/lang/String;", 30, 1),
     (0, 198, "java/lang/Throwable", "backtrace", "Ljava/lang/Object;", 30, 0),
     (1, 202, "java/lang/Throwable", "fillInStackTrace", "(I)Ljava/lang/Throwable;", 30, 3)]
    [("backtrace", .object "java/lang/Object", 0x82), ("detailMessage", .object "java/lang/String", 0x2), ("cause", .object "java/lang/Throwable", 0x2), ("stackTrace", .array (.object "java/lang/StackTraceElement"), 0x2), ("depth", .int, 0x82), ("suppressedExceptions", .object "java/util/List", 0x2)] (Lib.HandJ.method "<init>" "()V" [] none 0x1 1 prog_37_method_1_code) with
  methods := #[Lib.HandJ.method "<init>" "()V" [] none 0x1 1 prog_37_method_1_code,
    Lib.HandJ.method "<init>" "(Ljava/lang/String;)V" [.object "java/lang/String"] none 0x1 2 prog_37_method_2_code,
    Lib.HandJ.method "fillInStackTrace" "()Ljava/lang/Throwable;" [] (some (.object "java/lang/Throwable")) 0x21 1 prog_37_method_18_code,
    { name := "fillInStackTrace", desc := "(I)Ljava/lang/Throwable;", sig := { parameters := [.int], returnType := some (.object "java/lang/Throwable") }, accessFlags := 0x102, code := none }],
  interfaces := #[24],
  fields := (Lib.HandW.fieldsFrom [("backtrace", .object "java/lang/Object", 0x82), ("detailMessage", .object "java/lang/String", 0x2), ("cause", .object "java/lang/Throwable", 0x2), ("stackTrace", .array (.object "java/lang/StackTraceElement"), 0x2), ("depth", .int, 0x82), ("suppressedExceptions", .object "java/util/List", 0x2)] 0).toArray ++ #[{ name := "serialVersionUID", type := .long, accessFlags := 0x1a, slot := 0, constantValue := 0 }, { name := "UNASSIGNED_STACK", type := .array (.object "java/lang/StackTraceElement"), accessFlags := 0x1a, slot := 1, constantValue := 0 }, { name := "SUPPRESSED_SENTINEL", type := .object "java/util/List", accessFlags := 0x1a, slot := 2, constantValue := 0 }, { name := "NULL_CAUSE_MESSAGE", type := .object "java/lang/String", accessFlags := 0x1a, slot := 3, constantValue := 0 }, { name := "SELF_SUPPRESSION_MESSAGE", type := .object "java/lang/String", accessFlags := 0x1a, slot := 4, constantValue := 0 }, { name := "CAUSE_CAPTION", type := .object "java/lang/String", accessFlags := 0x1a, slot := 5, constantValue := 0 }, { name := "SUPPRESSED_CAPTION", type := .object "java/lang/String", accessFlags := 0x1a, slot := 6, constantValue := 0 }, { name := "EMPTY_THROWABLE_ARRAY", type := .array (.object "java/lang/Throwable"), accessFlags := 0x1a, slot := 7, constantValue := 0 }, { name := "$assertionsDisabled", type := .boolean, accessFlags := 0x1018, slot := 8, constantValue := 0 }],
  staticTypes := #[.long, .array (.object "java/lang/StackTraceElement"), .object "java/util/List", .object "java/lang/String", .object "java/lang/String", .object "java/lang/String", .object "java/lang/String", .array (.object "java/lang/Throwable"), .boolean],
  statics := some 4 }
def start1.c31 : Class := { su_own "java/lang/Number" 0x421
    []
    [] mLaw with
  methods := #[],
  interfaces := #[24] }
def start1.c32 : Class := { su_own "java/lang/StringBuilder" 0x31
    [(1, 1, "java/lang/AbstractStringBuilder", "<init>", "(I)V", 28, 0),
     (2, 18, "java/lang/String", "", "", 29, 0),
     (1, 29, "java/lang/AbstractStringBuilder", "append", "(Ljava/lang/String;)Ljava/lang/AbstractStringBuilder;", 28, 7),
     (1, 50, "java/lang/AbstractStringBuilder", "append", "(C)Ljava/lang/AbstractStringBuilder;", 28, 9),
     (1, 53, "java/lang/AbstractStringBuilder", "append", "(I)Ljava/lang/AbstractStringBuilder;", 28, 10),
     (1, 137, "java/lang/String", "<init>", "(Ljava/lang/StringBuilder;)V", 29, 0),
     (1, 329, "java/lang/AbstractStringBuilder", "charAt", "(I)C", 28, 6),
     (1, 333, "java/lang/AbstractStringBuilder", "setLength", "(I)V", 28, 5),
     (1, 343, "java/lang/AbstractStringBuilder", "length", "()I", 28, 1)]
    [] (Lib.HandJ.method "<init>" "()V" [] none 0x1 1 prog_32_method_1_code) with
  methods := #[Lib.HandJ.method "<init>" "()V" [] none 0x1 1 prog_32_method_1_code,
    Lib.HandJ.method "append" "(Ljava/lang/String;)Ljava/lang/StringBuilder;" [.object "java/lang/String"] (some (.object "java/lang/StringBuilder")) 0x1 2 prog_32_method_7_code,
    Lib.HandJ.method "append" "(C)Ljava/lang/StringBuilder;" [.char] (some (.object "java/lang/StringBuilder")) 0x1 2 prog_32_method_14_code,
    Lib.HandJ.method "append" "(I)Ljava/lang/StringBuilder;" [.int] (some (.object "java/lang/StringBuilder")) 0x1 2 prog_32_method_15_code,
    Lib.HandJ.method "toString" "()Ljava/lang/String;" [] (some (.object "java/lang/String")) 0x1 1 prog_32_method_42_code,
    Lib.HandJ.method "charAt" "(I)C" [.int] (some .char) 0x1041 2 prog_32_method_88_code,
    Lib.HandJ.method "setLength" "(I)V" [.int] none 0x1041 2 prog_32_method_89_code,
    Lib.HandJ.method "length" "()I" [] (some .int) 0x1041 1 prog_32_method_93_code],
  interfaces := #[22, 24, 25, 23],
  super := some 28,
  instanceTypes := #[.array .byte, .byte, .boolean, .int],
  fields := (Lib.HandW.fieldsFrom [] 4).toArray }
def start1.c33 : Class := { su_own "java/lang/Exception" 0x21
    [(1, 7, "java/lang/Throwable", "<init>", "(Ljava/lang/String;)V", 30, 1)]
    [] ({ name := "<init>", desc := "()V", sig := { parameters := [], returnType := none }, accessFlags := 0x1, code := none }) with
  methods := #[{ name := "<init>", desc := "()V", sig := { parameters := [], returnType := none }, accessFlags := 0x1, code := none },
    Lib.HandJ.method "<init>" "(Ljava/lang/String;)V" [.object "java/lang/String"] none 0x1 2 prog_23_method_2_code],
  super := some 30,
  instanceTypes := #[.object "java/lang/Object", .object "java/lang/String", .object "java/lang/Throwable", .array (.object "java/lang/StackTraceElement"), .int, .object "java/util/List"],
  fields := (Lib.HandW.fieldsFrom [] 6).toArray }
def start1.c34 : Class := { su_own "java/lang/Integer" 0x31
    [(0, 83, "java/lang/Integer", "DigitOnes", "[B", 34, 6),
     (0, 87, "java/lang/Integer", "DigitTens", "[B", 34, 5)]
    [("value", .int, 0x12)] (Lib.HandJ.method "getChars" "(II[B)I" [.int, .int, .array .byte] (some .int) 0x8 7 prog_27_method_12_code) with
  methods := #[Lib.HandJ.method "getChars" "(II[B)I" [.int, .int, .array .byte] (some .int) 0x8 7 prog_27_method_12_code,
    Lib.HandJ.method "stringSize" "(I)I" [.int] (some .int) 0x8 4 prog_27_method_13_code],
  interfaces := #[25, 26, 27],
  super := some 31,
  instanceTypes := #[.int],
  fields := (Lib.HandW.fieldsFrom [("value", .int, 0x12)] 0).toArray ++ #[{ name := "MIN_VALUE", type := .int, accessFlags := 0x19, slot := 0, constantValue := 0 }, { name := "MAX_VALUE", type := .int, accessFlags := 0x19, slot := 1, constantValue := 0 }, { name := "TYPE", type := .object "java/lang/Class", accessFlags := 0x19, slot := 2, constantValue := 0 }, { name := "digits", type := .array .char, accessFlags := 0x18, slot := 3, constantValue := 0 }, { name := "DigitTens", type := .array .byte, accessFlags := 0x18, slot := 4, constantValue := 0 }, { name := "DigitOnes", type := .array .byte, accessFlags := 0x18, slot := 5, constantValue := 0 }, { name := "SIZE", type := .int, accessFlags := 0x19, slot := 6, constantValue := 0 }, { name := "BYTES", type := .int, accessFlags := 0x19, slot := 7, constantValue := 0 }, { name := "serialVersionUID", type := .long, accessFlags := 0x1a, slot := 8, constantValue := 0 }],
  staticTypes := #[.int, .int, .object "java/lang/Class", .array .char, .array .byte, .array .byte, .int, .int, .long],
  statics := some 5 }
def start1.c35 : Class := { su_own "java/lang/RuntimeException" 0x21
    [(1, 7, "java/lang/Exception", "<init>", "(Ljava/lang/String;)V", 33, 1)]
    [] ({ name := "<init>", desc := "()V", sig := { parameters := [], returnType := none }, accessFlags := 0x1, code := none }) with
  methods := #[{ name := "<init>", desc := "()V", sig := { parameters := [], returnType := none }, accessFlags := 0x1, code := none },
    Lib.HandJ.method "<init>" "(Ljava/lang/String;)V" [.object "java/lang/String"] none 0x1 2 prog_30_method_2_code],
  super := some 33,
  instanceTypes := #[.object "java/lang/Object", .object "java/lang/String", .object "java/lang/Throwable", .array (.object "java/lang/StackTraceElement"), .int, .object "java/util/List"],
  fields := (Lib.HandW.fieldsFrom [] 6).toArray }
def start1.c36 : Class := { su_own "java/lang/IllegalStateException" 0x21
    [(1, 7, "java/lang/RuntimeException", "<init>", "(Ljava/lang/String;)V", 35, 1)]
    [] (Lib.HandJ.method "<init>" "(Ljava/lang/String;)V" [.object "java/lang/String"] none 0x1 2 prog_25_method_2_code) with
  methods := #[Lib.HandJ.method "<init>" "(Ljava/lang/String;)V" [.object "java/lang/String"] none 0x1 2 prog_25_method_2_code],
  super := some 35,
  instanceTypes := #[.object "java/lang/Object", .object "java/lang/String", .object "java/lang/Throwable", .array (.object "java/lang/StackTraceElement"), .int, .object "java/util/List"],
  fields := (Lib.HandW.fieldsFrom [] 6).toArray }
def start1.c37 : Class := { su_own "java/lang/IllegalArgumentException" 0x21
    [(1, 7, "java/lang/RuntimeException", "<init>", "(Ljava/lang/String;)V", 35, 1)]
    [] (Lib.HandJ.method "<init>" "(Ljava/lang/String;)V" [.object "java/lang/String"] none 0x1 2 prog_24_method_2_code) with
  methods := #[Lib.HandJ.method "<init>" "(Ljava/lang/String;)V" [.object "java/lang/String"] none 0x1 2 prog_24_method_2_code],
  super := some 35,
  instanceTypes := #[.object "java/lang/Object", .object "java/lang/String", .object "java/lang/Throwable", .array (.object "java/lang/StackTraceElement"), .int, .object "java/util/List"],
  fields := (Lib.HandW.fieldsFrom [] 6).toArray }
def start1.c38 : Class := { su_own "java/util/NoSuchElementException" 0x21
    [(1, 13, "java/lang/RuntimeException", "<init>", "(Ljava/lang/String;)V", 35, 1)]
    [] (Lib.HandJ.method "<init>" "(Ljava/lang/String;)V" [.object "java/lang/String"] none 0x1 2 prog_42_method_4_code) with
  methods := #[Lib.HandJ.method "<init>" "(Ljava/lang/String;)V" [.object "java/lang/String"] none 0x1 2 prog_42_method_4_code],
  super := some 35,
  instanceTypes := #[.object "java/lang/Object", .object "java/lang/String", .object "java/lang/Throwable", .array (.object "java/lang/StackTraceElement"), .int, .object "java/util/List"],
  fields := (Lib.HandW.fieldsFrom [] 6).toArray }
def start1.c39 : Class := { su_own "java/lang/IndexOutOfBoundsException" 0x21
    [(1, 7, "java/lang/RuntimeException", "<init>", "(Ljava/lang/String;)V", 35, 1)]
    [] ({ name := "<init>", desc := "()V", sig := { parameters := [], returnType := none }, accessFlags := 0x1, code := none }) with
  methods := #[{ name := "<init>", desc := "()V", sig := { parameters := [], returnType := none }, accessFlags := 0x1, code := none },
    Lib.HandJ.method "<init>" "(Ljava/lang/String;)V" [.object "java/lang/String"] none 0x1 2 prog_26_method_2_code],
  super := some 35,
  instanceTypes := #[.object "java/lang/Object", .object "java/lang/String", .object "java/lang/Throwable", .array (.object "java/lang/StackTraceElement"), .int, .object "java/util/List"],
  fields := (Lib.HandW.fieldsFrom [] 6).toArray }
def start1.c40 : Class := { su_own "java/lang/UnsupportedOperationException" 0x21
    [(1, 7, "java/lang/RuntimeException", "<init>", "(Ljava/lang/String;)V", 35, 1)]
    [] (Lib.HandJ.method "<init>" "(Ljava/lang/String;)V" [.object "java/lang/String"] none 0x1 2 prog_38_method_2_code) with
  methods := #[Lib.HandJ.method "<init>" "(Ljava/lang/String;)V" [.object "java/lang/String"] none 0x1 2 prog_38_method_2_code],
  super := some 35,
  instanceTypes := #[.object "java/lang/Object", .object "java/lang/String", .object "java/lang/Throwable", .array (.object "java/lang/StackTraceElement"), .int, .object "java/util/List"],
  fields := (Lib.HandW.fieldsFrom [] 6).toArray }
def start1.c41 : Class := { su_own "java/lang/ArithmeticException" 0x21
    [(1, 7, "java/lang/RuntimeException", "<init>", "(Ljava/lang/String;)V", 35, 1)]
    [] (Lib.HandJ.method "<init>" "(Ljava/lang/String;)V" [.object "java/lang/String"] none 0x1 2 prog_18_method_2_code) with
  methods := #[Lib.HandJ.method "<init>" "(Ljava/lang/String;)V" [.object "java/lang/String"] none 0x1 2 prog_18_method_2_code],
  super := some 35,
  instanceTypes := #[.object "java/lang/Object", .object "java/lang/String", .object "java/lang/Throwable", .array (.object "java/lang/StackTraceElement"), .int, .object "java/util/List"],
  fields := (Lib.HandW.fieldsFrom [] 6).toArray }
def start1.c42 : Class := { su_own "java/lang/StringIndexOutOfBoundsException" 0x21
    [(1, 7, "java/lang/IndexOutOfBoundsException", "<init>", "(Ljava/lang/String;)V", 39, 1),
     (2, 10, "java/lang/StringBuilder", "", "", 32, 0),
     (1, 12, "java/lang/StringBuilder", "<init>", "()V", 32, 0),
     (3, 13, "", "String index out of range: ", "", 8, 0),
     (1, 15, "java/lang/StringBuilder", "append", "(Ljava/lang/String;)Ljava/lang/StringBuilder;", 32, 1),
     (1, 19, "java/lang/StringBuilder", "append", "(I)Ljava/lang/StringBuilder;", 32, 3),
     (1, 22, "java/lang/StringBuilder", "toString", "()Ljava/lang/String;", 32, 4)]
    [] (Lib.HandJ.method "<init>" "(I)V" [.int] none 0x1 2 prog_33_method_3_code) with
  methods := #[Lib.HandJ.method "<init>" "(I)V" [.int] none 0x1 2 prog_33_method_3_code],
  super := some 39,
  instanceTypes := #[.object "java/lang/Object", .object "java/lang/String", .object "java/lang/Throwable", .array (.object "java/lang/StackTraceElement"), .int, .object "java/util/List"],
  fields := (Lib.HandW.fieldsFrom [] 6).toArray }
def start1.c43 : Class := { su_own "java/lang/ArrayIndexOutOfBoundsException" 0x21
    [(1, 7, "java/lang/IndexOutOfBoundsException", "<init>", "(Ljava/lang/String;)V", 39, 1),
     (2, 10, "java/lang/StringBuilder", "", "", 32, 0),
     (1, 12, "java/lang/StringBuilder", "<init>", "()V", 32, 0),
     (3, 13, "", "Array index out of range: ", "", 18, 0),
     (1, 15, "java/lang/StringBuilder", "append", "(Ljava/lang/String;)Ljava/lang/StringBuilder;", 32, 1),
     (1, 19, "java/lang/StringBuilder", "append", "(I)Ljava/lang/StringBuilder;", 32, 3),
     (1, 22, "java/lang/StringBuilder", "toString", "()Ljava/lang/String;", 32, 4)]
    [] (Lib.HandJ.method "<init>" "(Ljava/lang/String;)V" [.object "java/lang/String"] none 0x1 2 prog_19_method_2_code) with
  methods := #[Lib.HandJ.method "<init>" "(Ljava/lang/String;)V" [.object "java/lang/String"] none 0x1 2 prog_19_method_2_code,
    Lib.HandJ.method "<init>" "(I)V" [.int] none 0x1 2 prog_19_method_3_code],
  super := some 39,
  instanceTypes := #[.object "java/lang/Object", .object "java/lang/String", .object "java/lang/Throwable", .array (.object "java/lang/StackTraceElement"), .int, .object "java/util/List"],
  fields := (Lib.HandW.fieldsFrom [] 6).toArray }
def start1.cPrim (name : String) (ch : Char) : Class := { Lib.HandJ.cls name #[] #[] 0x411 #[] #[] #[] with kind := .primitive ch, cf := none }
def start1.cArr (name : String) (prim : Nat) (t : FieldType) : Class := { Lib.HandJ.cls name #[] #[] 0x411 #[] #[] #[] with kind := .array prim t, super := some 1, cf := none }
def start1.args0 : Array Value := #[.ref 0]
/-! ALONE the witness, part 4, behind start1.mLaw start1.c3 start1.c16 -/
def start1.cells0 : Array Value := #[.int (-49), .int (-12), .int 25, .int 62, .int 99, .int 136, .int 173, .int (-41), .int (-4), .int 33, .int 70, .int 107, .int 144, .int 181, .int (-33), .int 4, .int 41, .int 78, .int 115, .int 152, .int 189, .int (-25), .int 12, .int 49, .int 86, .int 123, .int 160, .int (-54), .int (-17), .int 20, .int 57, .int 94, .int 131, .int 168, .int (-46), .int (-9), .int 28, .int 65, .int 102, .int 139, .int 176, .int (-38), .int (-1), .int 36, .int 73, .int 110, .int 147, .int 184, .int (-30), .int 7, .int 44, .int 81, .int 118, .int 155, .int (-59), .int (-22), .int 15, .int 52, .int 89, .int 126, .int 163, .int (-51), .int (-14), .int 23, .int 60, .int 97, .int 134, .int 171, .int (-43), .int (-6), .int 31, .int 68, .int 105, .int 142, .int 179, .int (-35), .int 2, .int 39, .int 76, .int 113, .int 150, .int 187, .int (-27), .int 10, .int 47, .int 84, .int 121, .int 158, .int (-56), .int (-19), .int 18, .int 55, .int 92, .int 129, .int 166, .int (-48), .int (-11), .int 26, .int 63, .int 100]
def start1.aboutOf (script : Array Value) : State where
  vm := { classes := #[c0, cObjectC, c2, c3, c4, c5, c6, c7, c8, c9, c10, c11, c12, c13, c14, c15, c16, c17, c18, c19, c20, c21, c22, c23, c24, c25, c26, c27, c28, c29, c30, c31, c32, c33, c34, c35, c36, c37, c38, c39, c40, c41, c42, c43, cPrim "int" 'I', { cArr "[I" 44 .int with interfaces := #[21] }, cPrim "byte" 'B', { cArr "[B" 46 .byte with interfaces := #[21] }, { cArr "[LTypeTutor$Shape;" 8 (.object "TypeTutor$Shape") with interfaces := #[21] }, { cArr "[LTypeTutor$Term;" 19 (.object "TypeTutor$Term") with interfaces := #[21] }, { cArr "[LTypeTutor$State;" 9 (.object "TypeTutor$State") with interfaces := #[21] }, { cArr "[[I" 45 (.array .int) with interfaces := #[21] }] }
  heap := #[{ cls := 45, slots := script, vm := .none }, { cls := 3, slots := #[.int (0), .int (8), .int 0, .int (1)], vm := .statics 3 }, { cls := 13, slots := #[.null, .null, .null], vm := .statics 13 }, { cls := 29, slots := #[.long 0, .int (1), .null, .int 0, .null, .int 0, .int 0], vm := .statics 29 }, { cls := 30, slots := #[.long 0, .null, .null, .null, .null, .null, .null, .null, .int 0], vm := .statics 30 }, { cls := 34, slots := #[.int 0, .int 0, .null, .null, .ref 7, .ref 6, .int 0, .int 0, .long 0], vm := .statics 34 }, { cls := 47, slots := #[.int (48), .int (49), .int (50), .int (51), .int (52), .int (53), .int (54), .int (55), .int (56), .int (57), .int (48), .int (49), .int (50), .int (51), .int (52), .int (53), .int (54), .int (55), .int (56), .int (57), .int (48), .int (49), .int (50), .int (51), .int (52), .int (53), .int (54), .int (55), .int (56), .int (57), .int (48), .int (49), .int (50), .int (51), .int (52), .int (53), .int (54), .int (55), .int (56), .int (57), .int (48), .int (49), .int (50), .int (51), .int (52), .int (53), .int (54), .int (55), .int (56), .int (57), .int (48), .int (49), .int (50), .int (51), .int (52), .int (53), .int (54), .int (55), .int (56), .int (57), .int (48), .int (49), .int (50), .int (51), .int (52), .int (53), .int (54), .int (55), .int (56), .int (57), .int (48), .int (49), .int (50), .int (51), .int (52), .int (53), .int (54), .int (55), .int (56), .int (57), .int (48), .int (49), .int (50), .int (51), .int (52), .int (53), .int (54), .int (55), .int (56), .int (57), .int (48), .int (49), .int (50), .int (51), .int (52), .int (53), .int (54), .int (55), .int (56), .int (57)], vm := .none }, { cls := 47, slots := #[.int (48), .int (48), .int (48), .int (48), .int (48), .int (48), .int (48), .int (48), .int (48), .int (48), .int (49), .int (49), .int (49), .int (49), .int (49), .int (49), .int (49), .int (49), .int (49), .int (49), .int (50), .int (50), .int (50), .int (50), .int (50), .int (50), .int (50), .int (50), .int (50), .int (50), .int (51), .int (51), .int (51), .int (51), .int (51), .int (51), .int (51), .int (51), .int (51), .int (51), .int (52), .int (52), .int (52), .int (52), .int (52), .int (52), .int (52), .int (52), .int (52), .int (52), .int (53), .int (53), .int (53), .int (53), .int (53), .int (53), .int (53), .int (53), .int (53), .int (53), .int (54), .int (54), .int (54), .int (54), .int (54), .int (54), .int (54), .int (54), .int (54), .int (54), .int (55), .int (55), .int (55), .int (55), .int (55), .int (55), .int (55), .int (55), .int (55), .int (55), .int (56), .int (56), .int (56), .int (56), .int (56), .int (56), .int (56), .int (56), .int (56), .int (56), .int (57), .int (57), .int (57), .int (57), .int (57), .int (57), .int (57), .int (57), .int (57), .int (57)], vm := .none }, { cls := 29, slots := #[.ref 9, .int 0, .int 0, .int 0], vm := .none }, { cls := 47, slots := #[.int 83, .int 116, .int 114, .int 105, .int 110, .int 103, .int 32, .int 105, .int 110, .int 100, .int 101, .int 120, .int 32, .int 111, .int 117, .int 116, .int 32, .int 111, .int 102, .int 32, .int 114, .int 97, .int 110, .int 103, .int 101, .int 58, .int 32], vm := .none }, { cls := 29, slots := #[.ref 11, .int 0, .int 0, .int 0], vm := .none }, { cls := 47, slots := #[.int 32, .int 62, .int 32], vm := .none }, { cls := 29, slots := #[.ref 13, .int 0, .int 0, .int 0], vm := .none }, { cls := 47, slots := #[.int 102, .int 114, .int 111, .int 109, .int 73, .int 110, .int 100, .int 101, .int 120, .int 40], vm := .none }, { cls := 29, slots := #[.ref 15, .int 0, .int 0, .int 0], vm := .none }, { cls := 47, slots := #[.int 41, .int 32, .int 62, .int 32, .int 116, .int 111, .int 73, .int 110, .int 100, .int 101, .int 120, .int 40], vm := .none }, { cls := 29, slots := #[.ref 17, .int 0, .int 0, .int 0], vm := .none }, { cls := 47, slots := #[.int 41], vm := .none }, { cls := 29, slots := #[.ref 19, .int 0, .int 0, .int 0], vm := .none }, { cls := 47, slots := #[.int 65, .int 114, .int 114, .int 97, .int 121, .int 32, .int 105, .int 110, .int 100, .int 101, .int 120, .int 32, .int 111, .int 117, .int 116, .int 32, .int 111, .int 102, .int 32, .int 114, .int 97, .int 110, .int 103, .int 101, .int 58, .int 32], vm := .none }, { cls := 29, slots := #[.ref 21, .int 0, .int 0, .int 0], vm := .none }, { cls := 47, slots := #[.int 116, .int 104, .int 101, .int 32, .int 116, .int 101, .int 114, .int 109, .int 32, .int 104, .int 97, .int 115, .int 32, .int 97, .int 32, .int 102, .int 97, .int 117, .int 108, .int 116], vm := .none }, { cls := 29, slots := #[.ref 23, .int 0, .int 0, .int 0], vm := .none }, { cls := 47, slots := #[.int 116, .int 104, .int 101, .int 114, .int 101, .int 32, .int 97, .int 114, .int 101, .int 32, .int 97, .int 115, .int 32, .int 109, .int 97, .int 110, .int 121, .int 32, .int 108, .int 101, .int 115, .int 115, .int 111, .int 110, .int 115, .int 32, .int 97, .int 115, .int 32, .int 116, .int 104, .int 101, .int 114, .int 101, .int 32, .int 99, .int 97, .int 110, .int 32, .int 98, .int 101], vm := .none }, { cls := 29, slots := #[.ref 25, .int 0, .int 0, .int 0], vm := .none }, { cls := 47, slots := #[.int 116, .int 104, .int 101, .int 32, .int 108, .int 101, .int 115, .int 115, .int 111, .int 110, .int 32, .int 99, .int 97, .int 110, .int 39, .int 116, .int 32, .int 98, .int 101, .int 32, .int 100, .int 114, .int 111, .int 112, .int 112, .int 101, .int 100], vm := .none }, { cls := 29, slots := #[.ref 27, .int 0, .int 0, .int 0], vm := .none }, { cls := 47, slots := #[.int 116, .int 104, .int 101, .int 32, .int 99, .int 97, .int 112, .int 105, .int 116, .int 97, .int 108, .int 32, .int 99, .int 97, .int 110, .int 39, .int 116, .int 32, .int 98, .int 101, .int 32, .int 101, .int 109, .int 112, .int 116, .int 105, .int 101, .int 100], vm := .none }, { cls := 29, slots := #[.ref 29, .int 0, .int 0, .int 0], vm := .none }, { cls := 47, slots := #[.int 116, .int 104, .int 101, .int 114, .int 101, .int 32, .int 105, .int 115, .int 32, .int 110, .int 111, .int 32, .int 115, .int 117, .int 99, .int 104, .int 32, .int 99, .int 97, .int 112, .int 105, .int 116, .int 97, .int 108], vm := .none }, { cls := 29, slots := #[.ref 31, .int 0, .int 0, .int 0], vm := .none }, { cls := 47, slots := #[.int 110, .int 111, .int 32, .int 108, .int 101, .int 115, .int 115, .int 111, .int 110, .int 32, .int 104, .int 97, .int 115, .int 32, .int 97, .int 32, .int 116, .int 121, .int 112, .int 101], vm := .none }, { cls := 29, slots := #[.ref 33, .int 0, .int 0, .int 0], vm := .none }, { cls := 47, slots := #[.int 116, .int 104, .int 101, .int 32, .int 116, .int 101, .int 120, .int 116, .int 32, .int 104, .int 97, .int 115, .int 32, .int 97, .int 32, .int 102, .int 97, .int 117, .int 108, .int 116], vm := .none }, { cls := 29, slots := #[.ref 35, .int 0, .int 0, .int 0], vm := .none }, { cls := 47, slots := #[.int 97, .int 110, .int 32, .int 111, .int 114, .int 100, .int 101, .int 114, .int 32, .int 105, .int 115, .int 32, .int 114, .int 101, .int 102, .int 117, .int 115, .int 101, .int 100], vm := .none }, { cls := 29, slots := #[.ref 37, .int 0, .int 0, .int 0], vm := .none }, { cls := 47, slots := #[.int 116, .int 104, .int 101, .int 32, .int 100, .int 101, .int 112, .int 116, .int 104, .int 32, .int 105, .int 115, .int 32, .int 110, .int 101, .int 105, .int 116, .int 104, .int 101, .int 114, .int 32, .int 48, .int 32, .int 110, .int 111, .int 114, .int 32, .int 49], vm := .none }, { cls := 29, slots := #[.ref 39, .int 0, .int 0, .int 0], vm := .none }, { cls := 47, slots := #[.int 116, .int 104, .int 101, .int 114, .int 101, .int 32, .int 105, .int 115, .int 32, .int 110, .int 111, .int 32, .int 115, .int 117, .int 99, .int 104, .int 32, .int 114, .int 101, .int 97, .int 115, .int 111, .int 110], vm := .none }, { cls := 29, slots := #[.ref 41, .int 0, .int 0, .int 0], vm := .none }, { cls := 47, slots := #[.int 116, .int 104, .int 101, .int 114, .int 101, .int 32, .int 105, .int 115, .int 32, .int 110, .int 111, .int 32, .int 115, .int 117, .int 99, .int 104, .int 32, .int 99, .int 104, .int 97, .int 114, .int 97, .int 99, .int 116, .int 101, .int 114], vm := .none }, { cls := 29, slots := #[.ref 43, .int 0, .int 0, .int 0], vm := .none }, { cls := 47, slots := #[.int 116, .int 104, .int 101, .int 114, .int 101, .int 32, .int 105, .int 115, .int 32, .int 110, .int 111, .int 32, .int 115, .int 117, .int 99, .int 104, .int 32, .int 97, .int 99, .int 99, .int 111, .int 117, .int 110, .int 116], vm := .none }, { cls := 29, slots := #[.ref 45, .int 0, .int 0, .int 0], vm := .none }, { cls := 47, slots := #[.int 116, .int 104, .int 101, .int 114, .int 101, .int 32, .int 105, .int 115, .int 32, .int 110, .int 111, .int 32, .int 99, .int 104, .int 97, .int 110, .int 103, .int 101, .int 32, .int 116, .int 111, .int 32, .int 117, .int 110, .int 100, .int 111], vm := .none }, { cls := 29, slots := #[.ref 47, .int 0, .int 0, .int 0], vm := .none }, { cls := 47, slots := #[.int 110, .int 111, .int 116, .int 104, .int 105, .int 110, .int 103, .int 32, .int 119, .int 97, .int 115, .int 32, .int 115, .int 97, .int 118, .int 101, .int 100], vm := .none }, { cls := 29, slots := #[.ref 49, .int 0, .int 0, .int 0], vm := .none }, { cls := 47, slots := #[], vm := .none }, { cls := 29, slots := #[.ref 51, .int 0, .int 0, .int 0], vm := .none }, { cls := 47, slots := #[.int 120, .int 121, .int 122, .int 102], vm := .none }, { cls := 29, slots := #[.ref 53, .int 0, .int 0, .int 0], vm := .none }, { cls := 47, slots := #[.int 43, .int 43, .int 60, .int 63, .int 63], vm := .none }, { cls := 29, slots := #[.ref 55, .int 0, .int 0, .int 0], vm := .none }, { cls := 47, slots := #[.int 120, .int 121, .int 122], vm := .none }, { cls := 29, slots := #[.ref 57, .int 0, .int 0, .int 0], vm := .none }, { cls := 47, slots := #[.int 94], vm := .none }, { cls := 29, slots := #[.ref 59, .int 0, .int 0, .int 0], vm := .none }, { cls := 47, slots := #[.int 46], vm := .none }, { cls := 29, slots := #[.ref 61, .int 0, .int 0, .int 0], vm := .none }, { cls := 47, slots := #[.int 33], vm := .none }, { cls := 29, slots := #[.ref 63, .int 0, .int 0, .int 0], vm := .none }, { cls := 47, slots := #[.int 61], vm := .none }, { cls := 29, slots := #[.ref 65, .int 0, .int 0, .int 0], vm := .none }, { cls := 47, slots := #[.int 59], vm := .none }, { cls := 29, slots := #[.ref 67, .int 0, .int 0, .int 0], vm := .none }, { cls := 47, slots := #[.int 43, .int 60, .int 63], vm := .none }, { cls := 29, slots := #[.ref 69, .int 0, .int 0, .int 0], vm := .none }, { cls := 47, slots := #[.int 40], vm := .none }, { cls := 29, slots := #[.ref 71, .int 0, .int 0, .int 0], vm := .none }, { cls := 47, slots := #[.int 94, .int 120, .int 46, .int 120], vm := .none }, { cls := 29, slots := #[.ref 73, .int 0, .int 0, .int 0], vm := .none }, { cls := 47, slots := #[.int 110, .int 111, .int 32, .int 115, .int 117, .int 99, .int 104, .int 32, .int 99, .int 104, .int 97, .int 114, .int 97, .int 99, .int 116, .int 101, .int 114, .int 32, .int 99, .int 97, .int 110, .int 32, .int 98, .int 101, .int 32, .int 97, .int 112, .int 112, .int 101, .int 110, .int 100, .int 101, .int 100], vm := .none }, { cls := 29, slots := #[.ref 75, .int 0, .int 0, .int 0], vm := .none }, { cls := 47, slots := #[.int 116, .int 104, .int 101, .int 32, .int 105, .int 110, .int 112, .int 117, .int 116, .int 32, .int 105, .int 115, .int 32, .int 102, .int 117, .int 108, .int 108], vm := .none }, { cls := 29, slots := #[.ref 77, .int 0, .int 0, .int 0], vm := .none }, { cls := 47, slots := #[.int 116, .int 104, .int 101, .int 32, .int 116, .int 121, .int 112, .int 101, .int 32, .int 99, .int 97, .int 110, .int 39, .int 116, .int 32, .int 98, .int 101, .int 32, .int 107, .int 101, .int 112, .int 116], vm := .none }, { cls := 29, slots := #[.ref 79, .int 0, .int 0, .int 0], vm := .none }, { cls := 47, slots := #[.int 107], vm := .none }, { cls := 29, slots := #[.ref 81, .int 0, .int 0, .int 0], vm := .none }, { cls := 47, slots := #[.int 120], vm := .none }, { cls := 29, slots := #[.ref 83, .int 0, .int 0, .int 0], vm := .none }, { cls := 47, slots := #[.int 59, .int 117], vm := .none }, { cls := 29, slots := #[.ref 85, .int 0, .int 0, .int 0], vm := .none }, { cls := 47, slots := #[.int 116, .int 104, .int 101, .int 114, .int 101, .int 32, .int 105, .int 115, .int 32, .int 110, .int 111, .int 32, .int 115, .int 117, .int 99, .int 104, .int 32, .int 108, .int 101, .int 115, .int 115, .int 111, .int 110], vm := .none }, { cls := 29, slots := #[.ref 87, .int 0, .int 0, .int 0], vm := .none }, { cls := 47, slots := #[.int 116, .int 104, .int 101, .int 32, .int 108, .int 101, .int 115, .int 115, .int 111, .int 110, .int 32, .int 104, .int 97, .int 115, .int 32, .int 110, .int 111, .int 32, .int 116, .int 121, .int 112, .int 101], vm := .none }, { cls := 29, slots := #[.ref 89, .int 0, .int 0, .int 0], vm := .none }, { cls := 47, slots := #[.int 116, .int 104, .int 101, .int 114, .int 101, .int 32, .int 105, .int 115, .int 32, .int 110, .int 111, .int 32, .int 115, .int 117, .int 99, .int 104, .int 32, .int 110, .int 117, .int 109, .int 98, .int 101, .int 114, .int 32, .int 111, .int 102, .int 32, .int 97, .int 32, .int 102, .int 97, .int 105, .int 108, .int 117, .int 114, .int 101], vm := .none }, { cls := 29, slots := #[.ref 91, .int 0, .int 0, .int 0], vm := .none }, { cls := 47, slots := #[.int 116, .int 104, .int 101, .int 32, .int 108, .int 101, .int 115, .int 115, .int 111, .int 110, .int 32, .int 104, .int 97, .int 115, .int 32, .int 97, .int 32, .int 116, .int 121, .int 112, .int 101], vm := .none }, { cls := 29, slots := #[.ref 93, .int 0, .int 0, .int 0], vm := .none }, { cls := 47, slots := #[.int 116, .int 104, .int 101, .int 32, .int 99, .int 97, .int 112, .int 105, .int 116, .int 97, .int 108, .int 32, .int 107, .int 101, .int 101, .int 112, .int 115, .int 32, .int 110, .int 111, .int 116, .int 104, .int 105, .int 110, .int 103], vm := .none }, { cls := 29, slots := #[.ref 95, .int 0, .int 0, .int 0], vm := .none }, { cls := 47, slots := #[.int 45], vm := .none }, { cls := 29, slots := #[.ref 97, .int 0, .int 0, .int 0], vm := .none }, { cls := 47, slots := #[.int 94, .int 120, .int 46, .int 94, .int 121, .int 46, .int 120], vm := .none }, { cls := 29, slots := #[.ref 99, .int 0, .int 0, .int 0], vm := .none }, { cls := 47, slots := #[.int 33, .int 102, .int 61, .int 94, .int 120, .int 46, .int 120, .int 59, .int 102, .int 43, .int 40, .int 102, .int 49, .int 41], vm := .none }, { cls := 29, slots := #[.ref 101, .int 0, .int 0, .int 0], vm := .none }, { cls := 47, slots := #[.int 94, .int 120, .int 46, .int 120, .int 120], vm := .none }, { cls := 29, slots := #[.ref 103, .int 0, .int 0, .int 0], vm := .none }, { cls := 47, slots := #[.int 116, .int 104, .int 101, .int 114, .int 101, .int 32, .int 105, .int 115, .int 32, .int 110, .int 111, .int 32, .int 115, .int 117, .int 99, .int 104, .int 32, .int 110, .int 111, .int 100, .int 101], vm := .none }, { cls := 29, slots := #[.ref 105, .int 0, .int 0, .int 0], vm := .none }, { cls := 47, slots := #[.int 116, .int 104, .int 101, .int 114, .int 101, .int 32, .int 105, .int 115, .int 32, .int 110, .int 111, .int 32, .int 115, .int 117, .int 99, .int 104, .int 32, .int 110, .int 117, .int 109, .int 98, .int 101, .int 114, .int 32, .int 111, .int 102, .int 32, .int 97, .int 32, .int 110, .int 111, .int 100, .int 101], vm := .none }, { cls := 29, slots := #[.ref 107, .int 0, .int 0, .int 0], vm := .none }, { cls := 47, slots := #[.int 97, .int 110, .int 32, .int 97, .int 112, .int 112, .int 108, .int 105, .int 99, .int 97, .int 116, .int 105, .int 111, .int 110, .int 32, .int 104, .int 97, .int 115, .int 32, .int 110, .int 111, .int 32, .int 115, .int 105, .int 103, .int 110], vm := .none }, { cls := 29, slots := #[.ref 109, .int 0, .int 0, .int 0], vm := .none }, { cls := 47, slots := #[.int 116, .int 104, .int 101, .int 32, .int 110, .int 111, .int 100, .int 101, .int 32, .int 105, .int 115, .int 32, .int 110, .int 101, .int 105, .int 116, .int 104, .int 101, .int 114, .int 32, .int 97, .int 32, .int 102, .int 117, .int 110, .int 99, .int 116, .int 105, .int 111, .int 110, .int 32, .int 110, .int 111, .int 114, .int 32, .int 97, .int 32, .int 108, .int 101, .int 116], vm := .none }, { cls := 29, slots := #[.ref 111, .int 0, .int 0, .int 0], vm := .none }, { cls := 47, slots := #[.int 110, .int 111, .int 116, .int 104, .int 105, .int 110, .int 103, .int 32, .int 98, .int 105, .int 110, .int 100, .int 115, .int 32, .int 116, .int 104, .int 105, .int 115, .int 32, .int 110, .int 111, .int 100, .int 101], vm := .none }, { cls := 29, slots := #[.ref 113, .int 0, .int 0, .int 0], vm := .none }, { cls := 47, slots := #[.int 116, .int 104, .int 101, .int 114, .int 101, .int 32, .int 105, .int 115, .int 32, .int 110, .int 111, .int 32, .int 115, .int 117, .int 99, .int 104, .int 32, .int 110, .int 117, .int 109, .int 98, .int 101, .int 114, .int 32, .int 111, .int 102, .int 32, .int 97, .int 32, .int 116, .int 121, .int 112, .int 101], vm := .none }, { cls := 29, slots := #[.ref 115, .int 0, .int 0, .int 0], vm := .none }, { cls := 47, slots := #[.int 116, .int 104, .int 101, .int 32, .int 115, .int 101, .int 99, .int 111, .int 110, .int 100, .int 32, .int 119, .int 97, .int 121, .int 32, .int 103, .int 111, .int 101, .int 115, .int 32, .int 116, .int 104, .int 114, .int 111, .int 117, .int 103, .int 104, .int 32, .int 116, .int 111, .int 111, .int 32, .int 109, .int 97, .int 110, .int 121, .int 32, .int 110, .int 111, .int 100, .int 101, .int 115], vm := .none }, { cls := 29, slots := #[.ref 117, .int 0, .int 0, .int 0], vm := .none }, { cls := 47, slots := #[.int 116, .int 104, .int 101, .int 32, .int 108, .int 101, .int 115, .int 115, .int 111, .int 110, .int 115, .int 32, .int 100, .int 111, .int 32, .int 110, .int 111, .int 116, .int 32, .int 102, .int 105, .int 116], vm := .none }, { cls := 29, slots := #[.ref 119, .int 0, .int 0, .int 0], vm := .none }, { cls := 47, slots := #[.int 116, .int 104, .int 101, .int 114, .int 101, .int 32, .int 105, .int 115, .int 32, .int 110, .int 111, .int 32, .int 115, .int 117, .int 99, .int 104, .int 32, .int 112, .int 108, .int 97, .int 99, .int 101], vm := .none }, { cls := 29, slots := #[.ref 121, .int 0, .int 0, .int 0], vm := .none }, { cls := 47, slots := #[.int 116, .int 104, .int 101, .int 114, .int 101, .int 32, .int 97, .int 114, .int 101, .int 32, .int 110, .int 111, .int 32, .int 108, .int 101, .int 115, .int 115, .int 111, .int 110, .int 115], vm := .none }]
  slotsUsed := script.size + 1419
  threads := #[{ frames := .invoking ⟨0, 0⟩ args0 :: Lib.HandBits.below0 }]
def start1.about : State := aboutOf cells0
def start1.p0 : Program := .bare "" "" ""
def start1.e0 : Env := launch0.env 0 0 0
end
section
/-! why the printed start doesn't meet narrow_1_1: it asks a word of a class that the start's table lacks -/
theorem zz_and {a b : Cond} {args : Array Value} {s : State} (h : (Cond.and a b).before args s = true) : a.before args s = true ∧ b.before args s = true := by
  rw [Cond.before_and, Bool.and_eq_true] at h
  exact h
/-- what narrow_1_1 asks of the row class of StackTraceElement -/
theorem zz_asks {args : Array Value} {s : State} (h : narrow_1_1.before args s = true) : (Cond.not (Cond.castable "[Ljava/lang/StackTraceElement;" "java/lang/String")).before args s = true :=
  (zz_and (zz_and (zz_and (zz_and (zz_and (zz_and (zz_and (zz_and (zz_and h).2).2).2).1).1).2).2).2).2
/-- in a state whose table lacks this class, narrow_1_1 doesn't hold -/
theorem zz_false {args : Array Value} {s : State} (hn : s.vm.findClass "[Ljava/lang/StackTraceElement;" = none) : narrow_1_1.before args s = false := by
  cases e : narrow_1_1.before args s with
  | false => rfl
  | true =>
    have h := zz_asks e
    simp [Cond.before, Cond.holds, Cond.value, hn] at h
end
section
theorem zz_start : narrow_1_1.before start1.args0 start1.about = false := zz_false (by decide +kernel)
end
