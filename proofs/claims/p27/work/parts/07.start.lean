/-! Starts and ends of bodies in this claim's contract shapes; single rows over the bundle Hv. -/
abbrev kNm : List String := ["java/lang/RuntimeException", "java/lang/Exception"]
section KS
variable {l : Launch} {y : MethodName} {ws ws' : List Cond} {rm : Room} {mc ms : Nat} {G : va_G} {cy : ClassId × ClassId × ClassId} {av : List Value} {w w' : va_W} {cc : ByteArray} {maxL : Nat}
theorem kBodyI {r : Int32} {p : Program} {e : Env} {s s₁ : State} {m : MethodId} {below : List Frame} {meth : Method} {c : Code} (hlen : (lg_sl av).length ≤ maxL) (B : BodyLoose p l y (headSpec ws rm) cc maxL (some .int) e s m av.toArray below meth c s₁) (hml : c.maxLocals = maxL) (hP : va_P G vwCl w s.heap) (hK : va_K G vwCl (kTy cy) s) (hD0 : va_D (fun _ => True) w) (hE : EN (va_A w s.heap.size) s s.heap)
    (body : ∀ (p : Program) (e : Env) (s : State) (m : MethodId) (args : Array Value) (below : List Frame) (meth : Method) (c : Code) (Q : State → Prop) (A : Nat → Prop) (ls : Array Slot), p.tables.exec = Jvm.exec → c.code = cc → c.maxLocals = maxL → (∀ w ∈ ws, w.before args s = true) → s.vm.findClass y.cls = some m.cls → Hv s s.heap [] G cy A w → lv_has ls maxL (lv_args 0 av) →
      (∀ (H : Heap) (locs : List Loc) (ls : Array Slot) (pc : Nat), Hv s H locs G cy A w' → decode cc pc = .ok (.ireturn, 1) → W p l e rm s m args below meth c H locs mc ms Q (F0 m pc ls [.int r])) →
      W p l e rm s m args below meth c s.heap [] 0 0 Q (F0 m 0 ls [])) : W p l e (headSpec ws rm).room s m av.toArray below meth c s.heap [] 0 0 (MQ below (va_Qi (fun (x : Int32) (_ : Unit) => x = r) (fun _ t => Wp G w w' s.heap.size t) (va_A w s.heap.size)) av.toArray s mc ms (va_A w s.heap.size)) (entryFrame m av.toArray maxL) := by
  rw [lg_entry_eq]
  refine body p e s m _ below meth c _ (va_A w s.heap.size) _ B.exec B.bytes hml (atoms_spec (ws := ws) B.pre) (findClass_of_methodNamed B.named) ⟨hK, hP, hD0.self, va_S.rf, fun q h => Or.inr h, hE⟩ (lv_entry av hlen) (fun H locs ls pc hv hdg => ?_)
  exact W.iret (v := r) B.exec B.bytes B.returns (fun t ht hW => ⟨⟨r, (), rfl, rfl, by rw [ht]; exact hv.2.1, hv.2.2.1⟩, hv.2.2.2.1.F ht⟩) hv.2.2.2.1.2.2 hdg
theorem kMetI {r : Int32} (hy : plainName y.cls = true) (hw : ws = Cond.code y cc maxL (some .int) :: ws') (hlen : (lg_sl av).length ≤ maxL)
    (body : ∀ (p : Program) (e : Env) (s : State) (m : MethodId) (args : Array Value) (below : List Frame) (meth : Method) (c : Code) (Q : State → Prop) (A : Nat → Prop) (ls : Array Slot), p.tables.exec = Jvm.exec → c.code = cc → c.maxLocals = maxL → (∀ w ∈ ws, w.before args s = true) → s.vm.findClass y.cls = some m.cls → Hv s s.heap [] G cy A w → lv_has ls maxL (lv_args 0 av) →
      (∀ (H : Heap) (locs : List Loc) (ls : Array Slot) (pc : Nat), Hv s H locs G cy A w' → decode cc pc = .ok (.ireturn, 1) → W p l e rm s m args below meth c H locs mc ms Q (F0 m pc ls [.int r])) →
      W p l e rm s m args below meth c s.heap [] 0 0 Q (F0 m 0 ls [])) : Ci l y ws rm mc ms G cy av w w' r := by
  intro sz
  refine Met.ofW (cc := cc) (maxL := maxL) (ret := some .int) hy hw ?_
  intro p e s m args below meth c s₁ B hml hv
  obtain ⟨rfl, hsz, hP, hK, hD0, hE⟩ := hv
  subst hsz
  rw [lg_entry_eq]
  refine body p e s m _ below meth c _ (va_A w s.heap.size) _ B.exec B.bytes hml (atoms_spec (ws := ws) B.pre) (findClass_of_methodNamed B.named) ⟨hK, hP, hD0.self, va_S.rf, fun q h => Or.inr h, hE⟩ (lv_entry av hlen) (fun H locs ls pc hv hdg => ?_)
  exact W.iret (v := r) B.exec B.bytes B.returns (fun t ht hW => ⟨⟨r, (), rfl, rfl, by rw [ht]; exact hv.2.1, hv.2.2.1⟩, hv.2.2.2.1.F ht⟩) hv.2.2.2.1.2.2 hdg
theorem kMetZ {r : Int32} (hy : plainName y.cls = true) (hw : ws = Cond.code y cc maxL (some .boolean) :: ws') (hlen : (lg_sl av).length ≤ maxL)
    (body : ∀ (p : Program) (e : Env) (s : State) (m : MethodId) (args : Array Value) (below : List Frame) (meth : Method) (c : Code) (Q : State → Prop) (A : Nat → Prop) (ls : Array Slot), p.tables.exec = Jvm.exec → c.code = cc → c.maxLocals = maxL → (∀ w ∈ ws, w.before args s = true) → s.vm.findClass y.cls = some m.cls → Hv s s.heap [] G cy A w → lv_has ls maxL (lv_args 0 av) →
      (∀ (H : Heap) (locs : List Loc) (ls : Array Slot) (pc : Nat), Hv s H locs G cy A w' → decode cc pc = .ok (.ireturn, 1) → narrow .boolean (.int r) = .int r → W p l e rm s m args below meth c H locs mc ms Q (F0 m pc ls [.int r])) →
      W p l e rm s m args below meth c s.heap [] 0 0 Q (F0 m 0 ls [])) : Ci l y ws rm mc ms G cy av w w' r := by
  intro sz
  refine Met.ofW (cc := cc) (maxL := maxL) (ret := some .boolean) hy hw ?_
  intro p e s m args below meth c s₁ B hml hv
  obtain ⟨rfl, hsz, hP, hK, hD0, hE⟩ := hv
  subst hsz
  rw [lg_entry_eq]
  refine body p e s m _ below meth c _ (va_A w s.heap.size) _ B.exec B.bytes hml (atoms_spec (ws := ws) B.pre) (findClass_of_methodNamed B.named) ⟨hK, hP, hD0.self, va_S.rf, fun q h => Or.inr h, hE⟩ (lv_entry av hlen) (fun H locs ls pc hv hdg hn => ?_)
  exact W.zret (v := r) B.exec B.bytes B.returns hn (fun t ht hW => ⟨⟨r, (), rfl, rfl, by rw [ht]; exact hv.2.1, hv.2.2.1⟩, hv.2.2.2.1.F ht⟩) hv.2.2.2.1.2.2 hdg
theorem kMetL {r : Int64} (hy : plainName y.cls = true) (hw : ws = Cond.code y cc maxL (some .long) :: ws') (hlen : (lg_sl av).length ≤ maxL)
    (body : ∀ (p : Program) (e : Env) (s : State) (m : MethodId) (args : Array Value) (below : List Frame) (meth : Method) (c : Code) (Q : State → Prop) (A : Nat → Prop) (ls : Array Slot), p.tables.exec = Jvm.exec → c.code = cc → c.maxLocals = maxL → (∀ w ∈ ws, w.before args s = true) → s.vm.findClass y.cls = some m.cls → Hv s s.heap [] G cy A w → lv_has ls maxL (lv_args 0 av) →
      (∀ (H : Heap) (locs : List Loc) (ls : Array Slot) (pc : Nat), Hv s H locs G cy A w' → decode cc pc = .ok (.lreturn, 1) → W p l e rm s m args below meth c H locs mc ms Q (F0 m pc ls [.long r])) →
      W p l e rm s m args below meth c s.heap [] 0 0 Q (F0 m 0 ls [])) : Cl l y ws rm mc ms G cy av w w' r := by
  intro sz
  refine Met.ofW (cc := cc) (maxL := maxL) (ret := some .long) hy hw ?_
  intro p e s m args below meth c s₁ B hml hv
  obtain ⟨rfl, hsz, hP, hK, hD0, hE⟩ := hv
  subst hsz
  rw [lg_entry_eq]
  refine body p e s m _ below meth c _ (va_A w s.heap.size) _ B.exec B.bytes hml (atoms_spec (ws := ws) B.pre) (findClass_of_methodNamed B.named) ⟨hK, hP, hD0.self, va_S.rf, fun q h => Or.inr h, hE⟩ (lv_entry av hlen) (fun H locs ls pc hv hdg => ?_)
  exact W.lret (v := r) B.exec B.bytes B.returns (fun t ht hW => ⟨⟨r, (), rfl, rfl, by rw [ht]; exact hv.2.1, hv.2.2.1⟩, hv.2.2.2.1.F ht⟩) hv.2.2.2.1.2.2 hdg
theorem kMetV (hy : plainName y.cls = true) (hw : ws = Cond.code y cc maxL none :: ws') (hlen : (lg_sl av).length ≤ maxL)
    (body : ∀ (p : Program) (e : Env) (s : State) (m : MethodId) (args : Array Value) (below : List Frame) (meth : Method) (c : Code) (Q : State → Prop) (A : Nat → Prop) (ls : Array Slot), p.tables.exec = Jvm.exec → c.code = cc → c.maxLocals = maxL → (∀ w ∈ ws, w.before args s = true) → s.vm.findClass y.cls = some m.cls → Hv s s.heap [] G cy A w → lv_has ls maxL (lv_args 0 av) →
      (∀ (H : Heap) (locs : List Loc) (ls : Array Slot) (pc : Nat), Hv s H locs G cy A w' → decode cc pc = .ok (.return_, 1) → W p l e rm s m args below meth c H locs mc ms Q (F0 m pc ls [])) →
      W p l e rm s m args below meth c s.heap [] 0 0 Q (F0 m 0 ls [])) : Cv l y ws rm mc ms G cy av w w' := by
  intro sz
  refine Met.ofW (cc := cc) (maxL := maxL) (ret := none) hy hw ?_
  intro p e s m args below meth c s₁ B hml hv
  obtain ⟨rfl, hsz, hP, hK, hD0, hE⟩ := hv
  subst hsz
  rw [lg_entry_eq]
  refine body p e s m _ below meth c _ (va_A w s.heap.size) _ B.exec B.bytes hml (atoms_spec (ws := ws) B.pre) (findClass_of_methodNamed B.named) ⟨hK, hP, hD0.self, va_S.rf, fun q h => Or.inr h, hE⟩ (lv_entry av hlen) (fun H locs ls pc hv hdg => ?_)
  exact W.vret B.exec B.bytes B.returns (fun t ht hW => ⟨⟨(), rfl, trivial, by rw [ht]; exact hv.2.1, hv.2.2.1⟩, hv.2.2.2.1.F ht⟩) hv.2.2.2.1.2.2 hdg
/-- the end of one that throws here, or lets out -/
def Tq (Qc : Array Value → State → Outcome → State → Prop) (G : va_G) (w : va_W) (E9 : String → Prop) (A : Nat → Prop) (below : List Frame) (args : Array Value) (s : State) (mc ms : Nat) (Q : State → Prop) : Prop :=
  Q = vx_MQ below Qc (vx_X (fun (_ : Unit) => True) (fun E _ t => E9 E ∧ Wp G w w s.heap.size t) A) args s mc ms A ∧ A = va_A w s.heap.size
theorem kMetXI {o : Except String (Int32 × va_W)} (hy : plainName y.cls = true) (hw : ws = Cond.code y cc maxL (some .int) :: ws') (hlen : (lg_sl av).length ≤ maxL)
    (body : ∀ (p : Program) (e : Env) (s : State) (m : MethodId) (args : Array Value) (below : List Frame) (meth : Method) (c : Code) (Q : State → Prop) (A : Nat → Prop) (ls : Array Slot) (Qc : Array Value → State → Outcome → State → Prop), p.tables.exec = Jvm.exec → c.code = cc → c.maxLocals = maxL → (∀ w ∈ ws, w.before args s = true) → s.vm.findClass y.cls = some m.cls → Hv s s.heap [] G cy A w → lv_has ls maxL (lv_args 0 av) →
      (∀ (r : Int32) (w' : va_W) (H : Heap) (locs : List Loc) (ls : Array Slot) (pc : Nat), o = .ok (r, w') → Hv s H locs G cy A w' → decode cc pc = .ok (.ireturn, 1) → W p l e rm s m args below meth c H locs mc ms Q (F0 m pc ls [.int r])) →
      Tq Qc G w (fun E => o = .error E) A below args s mc ms Q → (∀ x ∈ c.exceptionTable.toList, False) → meth.locks = false →
      W p l e rm s m args below meth c s.heap [] 0 0 Q (F0 m 0 ls [])) : Xi l y ws rm mc ms G cy av w o := by
  intro sz
  refine vx_ofW (cc := cc) (maxL := maxL) (ret := some .int) hy hw ?_
  intro p e s m args below meth c s₁ B hml htab hv
  obtain ⟨rfl, hsz, hP, hK, hD0, hE⟩ := hv
  subst hsz
  rw [lg_entry_eq]
  refine body p e s m _ below meth c _ (va_A w s.heap.size) _ _ B.exec B.bytes hml (atoms_spec (ws := ws) B.pre) (findClass_of_methodNamed B.named) ⟨hK, hP, hD0.self, va_S.rf, fun q h => Or.inr h, hE⟩ (lv_entry av hlen) (fun r w' H locs ls pc ho hv hdg => ?_) ⟨rfl, rfl⟩ htab B.notSynchronized
  exact vx_ret (W.iret (v := r) B.exec B.bytes B.returns (fun t ht hW => ⟨⟨r, w', rfl, ho, by rw [ht]; exact hv.2.1, hv.2.2.1⟩, hv.2.2.2.1.F ht⟩) hv.2.2.2.1.2.2 hdg)
theorem kMetXL {o : Except String (Int64 × va_W)} (hy : plainName y.cls = true) (hw : ws = Cond.code y cc maxL (some .long) :: ws') (hlen : (lg_sl av).length ≤ maxL)
    (body : ∀ (p : Program) (e : Env) (s : State) (m : MethodId) (args : Array Value) (below : List Frame) (meth : Method) (c : Code) (Q : State → Prop) (A : Nat → Prop) (ls : Array Slot) (Qc : Array Value → State → Outcome → State → Prop), p.tables.exec = Jvm.exec → c.code = cc → c.maxLocals = maxL → (∀ w ∈ ws, w.before args s = true) → s.vm.findClass y.cls = some m.cls → Hv s s.heap [] G cy A w → lv_has ls maxL (lv_args 0 av) →
      (∀ (r : Int64) (w' : va_W) (H : Heap) (locs : List Loc) (ls : Array Slot) (pc : Nat), o = .ok (r, w') → Hv s H locs G cy A w' → decode cc pc = .ok (.lreturn, 1) → W p l e rm s m args below meth c H locs mc ms Q (F0 m pc ls [.long r])) →
      Tq Qc G w (fun E => o = .error E) A below args s mc ms Q → (∀ x ∈ c.exceptionTable.toList, False) → meth.locks = false →
      W p l e rm s m args below meth c s.heap [] 0 0 Q (F0 m 0 ls [])) : Xl l y ws rm mc ms G cy av w o := by
  intro sz
  refine vx_ofW (cc := cc) (maxL := maxL) (ret := some .long) hy hw ?_
  intro p e s m args below meth c s₁ B hml htab hv
  obtain ⟨rfl, hsz, hP, hK, hD0, hE⟩ := hv
  subst hsz
  rw [lg_entry_eq]
  refine body p e s m _ below meth c _ (va_A w s.heap.size) _ _ B.exec B.bytes hml (atoms_spec (ws := ws) B.pre) (findClass_of_methodNamed B.named) ⟨hK, hP, hD0.self, va_S.rf, fun q h => Or.inr h, hE⟩ (lv_entry av hlen) (fun r w' H locs ls pc ho hv hdg => ?_) ⟨rfl, rfl⟩ htab B.notSynchronized
  exact vx_ret (W.lret (v := r) B.exec B.bytes B.returns (fun t ht hW => ⟨⟨r, w', rfl, ho, by rw [ht]; exact hv.2.1, hv.2.2.1⟩, hv.2.2.2.1.F ht⟩) hv.2.2.2.1.2.2 hdg)
theorem kMetXV {o : Except String va_W} (hy : plainName y.cls = true) (hw : ws = Cond.code y cc maxL none :: ws') (hlen : (lg_sl av).length ≤ maxL)
    (body : ∀ (p : Program) (e : Env) (s : State) (m : MethodId) (args : Array Value) (below : List Frame) (meth : Method) (c : Code) (Q : State → Prop) (A : Nat → Prop) (ls : Array Slot) (Qc : Array Value → State → Outcome → State → Prop), p.tables.exec = Jvm.exec → c.code = cc → c.maxLocals = maxL → (∀ w ∈ ws, w.before args s = true) → s.vm.findClass y.cls = some m.cls → Hv s s.heap [] G cy A w → lv_has ls maxL (lv_args 0 av) →
      (∀ (w' : va_W) (H : Heap) (locs : List Loc) (ls : Array Slot) (pc : Nat), o = .ok w' → Hv s H locs G cy A w' → decode cc pc = .ok (.return_, 1) → W p l e rm s m args below meth c H locs mc ms Q (F0 m pc ls [])) →
      Tq Qc G w (fun E => o = .error E) A below args s mc ms Q → (∀ x ∈ c.exceptionTable.toList, False) → meth.locks = false →
      W p l e rm s m args below meth c s.heap [] 0 0 Q (F0 m 0 ls [])) : Xv l y ws rm mc ms G cy av w o := by
  intro sz
  refine vx_ofW (cc := cc) (maxL := maxL) (ret := none) hy hw ?_
  intro p e s m args below meth c s₁ B hml htab hv
  obtain ⟨rfl, hsz, hP, hK, hD0, hE⟩ := hv
  subst hsz
  rw [lg_entry_eq]
  refine body p e s m _ below meth c _ (va_A w s.heap.size) _ _ B.exec B.bytes hml (atoms_spec (ws := ws) B.pre) (findClass_of_methodNamed B.named) ⟨hK, hP, hD0.self, va_S.rf, fun q h => Or.inr h, hE⟩ (lv_entry av hlen) (fun w' H locs ls pc ho hv hdg => ?_) ⟨rfl, rfl⟩ htab B.notSynchronized
  exact vx_ret (W.vret B.exec B.bytes B.returns (fun t ht hW => ⟨⟨w', rfl, ho, by rw [ht]; exact hv.2.1, hv.2.2.1⟩, hv.2.2.2.1.F ht⟩) hv.2.2.2.1.2.2 hdg)
end KS
section KR
variable {p : Program} {l : Launch} {e : Env} {R : Room} {s : State} {m : MethodId} {args : Array Value} {below : List Frame} {meth : Method} {c : Code} {H : Heap} {locs : List Loc} {cells slots : Nat} {Q : State → Prop}
variable {cc : ByteArray} {ws : List Cond} {rest : List Value} {pc : Nat} {ls : Array Slot} {G : va_G} {cy : ClassId × ClassId × ClassId} {A : Nat → Prop} {w : va_W} {a : Nat} {mc ms : Nat} {Qc : Array Value → State → Outcome → State → Prop} {E9 : String → Prop}
/-- throw new X("..") in the class itself -/
theorem kThrow (hx : p.tables.exec = Jvm.exec) (hb : c.code = cc) (hl9 : l.stackTraces = false) (hts : ∀ w ∈ ws, w.before args s = true) (hown : s.vm.findClass RX4 = some m.cls) (hv : Hv s H locs G cy A w) (hT : Tq Qc G w E9 A below args s mc ms Q) (htab : ∀ x ∈ c.exceptionTable.toList, False) (hlocks : meth.locks = false) (hsize : ls.size = c.maxLocals)
    {cls text : String} {ik is ic : Nat} (hE9 : E9 cls) (hcls : Bundle.fit cls = true) (hk : Cond.classLink RX4 ik cls ∈ ws) (hini : Cond.initialized cls ∈ ws) (hstr : (is, text) ∈ kStr)
    (hg : ∀ w ∈ (vx_atS RX4 ic cls kNm).filter goodWord, w ∈ ws) (hbad : ∀ w ∈ (vx_atS RX4 ic cls kNm).filter (fun w => !goodWord w), w ∈ kNest) (hgood : ∀ w ∈ Cond.classLink RX4 ik cls :: Cond.initialized cls :: vx_atS RX4 ic cls kNm, vx_ot w = true)
    (d0 : decode cc pc = .ok (.new ik, 3)) (d3 : decode cc (pc + 3) = .ok (.dup, 1)) (d4 : decode cc (pc + 4) = .ok (.ldc is, 2)) (d6 : decode cc (pc + 6) = .ok (.invokespecial ic, 3)) (d9 : decode cc (pc + 9) = .ok (.athrow, 1))
    (hfr : 5 < R.frames) (hlo : (rest.map fun v => v.category).sum + 82 ≤ R.locals) (hce : cells + 1 ≤ R.cells) (hsl : slots + 6 ≤ R.slots) (hc : cells + 1 ≤ mc) (hs : slots + 6 ≤ ms) : W p l e R s m args below meth c H locs cells slots Q (F0 m pc ls rest) := by
  obtain ⟨rfl, hA9⟩ := hT
  obtain ⟨hK, hP, hD, hS, hA, hE⟩ := id hv
  obtain ⟨sa, hsa⟩ := hE.2.2.1 _ hstr
  refine vx_throwS (cls := cls) (text := text) (names := kNm) (ik := ik) (is := is) (ic := ic) (sa := sa) (A := A) hx hb hl9 hown hcls (by decide +kernel) (hts _ hk) (hts _ hini) hsa
    (vx_hat (L := vx_atS RX4 ic cls kNm) (B := kNest) (fun w9 h9 => hts w9 (hg w9 h9)) hbad (fun w9 h9 => (hE.1 w9 h9).use (kNest_on w9 h9))) hgood hE.2.2.2.1 hE.2.2.2.2 hS hsize d0 d3 d4 d6 d9 (fun x9 h9 => absurd h9 (fun z => (htab x9 z).elim)) hfr hlo hce hsl hlocks (fun t hal hz hk9 => ?_) hS.2.2 hc hs
  refine ⟨(), trivial, ⟨hE9, fun k q hq => (hP k q hq).kept (hk9 _ (hP k q hq).lt), hA9 ▸ hD⟩, Nat.le_trans hS.1 hz, fun q h1 h2 => ?_⟩
  rw [hk9 q (Nat.lt_of_lt_of_le h1 hS.1)]
  exact hS.2.1 q h1 h2
/-- a callee's exception goes on to the caller -/
theorem kOut (hv : Hv s H locs G cy A w) (hT : Tq Qc G w E9 A below args s mc ms Q) (htab : ∀ x ∈ c.exceptionTable.toList, False) (hlocks : meth.locks = false) {E : String} {ce : Cell} {q : Addr} (hE9 : E9 E) (hcell : H[q]? = some ce) (hcv : ce.vm = .none) (hcl : s.vm.findClass E = some ce.cls) (hc : cells ≤ mc) (hs : slots ≤ ms) :
    vx_W p l e R s m args below meth c H locs cells slots Q (F0 m pc ls rest) q := by
  obtain ⟨rfl, hA9⟩ := hT
  obtain ⟨hK, hP, hD, hS, hA, hE⟩ := id hv
  exact vx_out (fun x9 h9 => (htab x9 h9).elim) hlocks hcell hcv hcl (fun t ht _ => ⟨(), trivial, ⟨hE9, by rw [ht]; exact hP, hA9 ▸ hD⟩, hS.F ht⟩) hS.2.2 hc hs
theorem kGet (hx : p.tables.exec = Jvm.exec) (hb : c.code = cc) {own ref C : String} {T : u_T} {N ci index : Nat} {Ts : List Cond} (hts : ∀ w ∈ Ts, w.before args s = true) (hin : ∀ w ∈ u_ws C T N, w ∈ Ts) (hown : s.vm.findClass own = some m.cls) (h : Hv s H locs G cy A w) (q0 : Nat) {fs : List Value} (he : w[q0]? = some (a, .inr (ci, fs))) (hc : vwCl[ci]? = some (C, T, N)) (k : Nat) (hk : k < N) (hlink : (Cond.fieldLink own index ref (T k).2.1 (T k).2.2.1).before args s = true) (hsame : ∀ x, s.fieldFound? (T k).1 (T k).2.1 (T k).2.2.1 = some x → s.fieldFound? ref (T k).2.1 (T k).2.2.1 = some x) {v : Value} (hv : fs[k]? = some v) (hdg : decode cc pc = .ok (.getfield index, 3))
    (kk : W p l e R s m args below meth c H locs cells slots Q (F0 m (pc + 3) ls (v :: rest))) : W p l e R s m args below meth c H locs cells slots Q (F0 m pc ls (.ref a :: rest)) :=
  va_get hx hb hts hin hown h.1 h.2.1 q0 he hc k hk hlink hsame hv hdg kk
theorem kGetN (hx : p.tables.exec = Jvm.exec) (hb : c.code = cc) {own ref C host : String} {T : u_T} {N ci index : Nat} {Ts : List Cond} (hts : ∀ w ∈ Ts, w.before args s = true) (hin : ∀ w ∈ u_ws C T N, w ∈ Ts) (hown : s.vm.findClass own = some m.cls) (h : Hv s H locs G cy A w) (q0 : Nat) {fs : List Value} (he : w[q0]? = some (a, .inr (ci, fs))) (hc : vwCl[ci]? = some (C, T, N)) (k : Nat) (hk : k < N) (hlink : (Cond.fieldLinkNest own index ref (T k).2.1 (T k).2.2.1 host).before args s = true) (hsame : ∀ x, s.fieldFound? (T k).1 (T k).2.1 (T k).2.2.1 = some x → s.fieldFound? ref (T k).2.1 (T k).2.2.1 = some x) {v : Value} (hv : fs[k]? = some v) (hdg : decode cc pc = .ok (.getfield index, 3))
    (kk : W p l e R s m args below meth c H locs cells slots Q (F0 m (pc + 3) ls (v :: rest))) : W p l e R s m args below meth c H locs cells slots Q (F0 m pc ls (.ref a :: rest)) :=
  va_getN hx hb hts hin hown h.1 h.2.1 q0 he hc k hk hlink hsame hv hdg kk
theorem kPut (hx : p.tables.exec = Jvm.exec) (hb : c.code = cc) {own ref C : String} {T : u_T} {N ci index : Nat} {Ts : List Cond} (hts : ∀ w ∈ Ts, w.before args s = true) (hin : ∀ w ∈ u_ws C T N, w ∈ Ts) (ty0 : Nat → FieldType) (hty : ∀ k, k < N → parseFieldDescriptor (T k).2.2.1 = some (ty0 k)) (hnm : ∀ a, a < N → ∀ b, b < N → a ≠ b → (T a).2.1 ≠ (T b).2.1) (hown : s.vm.findClass own = some m.cls) (h : Hv s H locs G cy A w) (q0 : Nat) {fs : List Value} (he : w[q0]? = some (a, .inr (ci, fs))) (hc : vwCl[ci]? = some (C, T, N)) (k : Nat) (hk : k < N) (hlink : (Cond.fieldLink own index ref (T k).2.1 (T k).2.2.1).before args s = true) (hsame : ∀ x, s.fieldFound? (T k).1 (T k).2.1 (T k).2.2.1 = some x → s.fieldFound? ref (T k).2.1 (T k).2.2.1 = some x) (hfin : (T k).2.2.2 = false) {ty : FieldType} {v : Value} (hd : parseFieldDescriptor (T k).2.2.1 = some ty) (hn : narrow ty v = v) (hfit : fits ty v = true) (hl : k < fs.length)
    (hdg : decode cc pc = .ok (.putfield index, 3)) (kk : ∀ (H1 : Heap) (locs1 : List Loc), Hv s H1 locs1 G cy A (w.set q0 (a, .inr (ci, fs.set k v))) → W p l e R s m args below meth c H1 locs1 cells slots Q (F0 m (pc + 3) ls rest)) : W p l e R s m args below meth c H locs cells slots Q (F0 m pc ls (v :: .ref a :: rest)) :=
  va_put hx hb hts hin ty0 hty hnm hown h.1 h.2.1 h.2.2.1 h.2.2.2.1 q0 he hc k hk hlink hsame hfin hd hn hfit hl hdg (fun H1 locs1 hP hD hS => kk H1 locs1 ⟨h.1, hP, hD, hS, h.2.2.2.2⟩)
theorem kIald (hx : p.tables.exec = Jvm.exec) (hb : c.code = cc) (h : Hv s H locs G cy A w) (q0 : Nat) {n : Nat} {f : Nat → Int32} (ha : w[q0]? = some (a, .inl (cy.1, n, .inl f))) {i : Int32} (hin : vp_in i n) (hdg : decode cc pc = .ok (.iaload, 1))
    (kk : W p l e R s m args below meth c H locs cells slots Q (F0 m (pc + 1) ls (.int (f i.toNatClampNeg) :: rest))) : W p l e R s m args below meth c H locs cells slots Q (F0 m pc ls (.int i :: .ref a :: rest)) := va_iald hx hb h.1 h.2.1 q0 0 ha rfl hin hdg kk
theorem kZald (hx : p.tables.exec = Jvm.exec) (hb : c.code = cc) (h : Hv s H locs G cy A w) (q0 : Nat) {n : Nat} {f : Nat → Int32} (ha : w[q0]? = some (a, .inl (cy.2.1, n, .inl f))) {i : Int32} (hin : vp_in i n) (hdg : decode cc pc = .ok (.baload, 1))
    (kk : W p l e R s m args below meth c H locs cells slots Q (F0 m (pc + 1) ls (.int (f i.toNatClampNeg) :: rest))) : W p l e R s m args below meth c H locs cells slots Q (F0 m pc ls (.int i :: .ref a :: rest)) := va_zald hx hb h.1 h.2.1 q0 1 ha rfl hin hdg kk
theorem kIast (hx : p.tables.exec = Jvm.exec) (hb : c.code = cc) (h : Hv s H locs G cy A w) (q0 : Nat) {n : Nat} {f : Nat → Int32} (ha : w[q0]? = some (a, .inl (cy.1, n, .inl f))) {i x : Int32} (hin : vp_in i n) (hdg : decode cc pc = .ok (.iastore, 1))
    (kk : ∀ (H1 : Heap) (locs1 : List Loc), Hv s H1 locs1 G cy A (w.set q0 (a, .inl (cy.1, n, .inl (upd f i.toNatClampNeg x)))) → W p l e R s m args below meth c H1 locs1 cells slots Q (F0 m (pc + 1) ls rest)) : W p l e R s m args below meth c H locs cells slots Q (F0 m pc ls (.int x :: .int i :: .ref a :: rest)) :=
  va_iast hx hb h.1 h.2.1 h.2.2.1 h.2.2.2.1 q0 0 ha rfl hin hdg (fun H1 locs1 hP hD hS => kk H1 locs1 ⟨h.1, hP, hD, hS, h.2.2.2.2⟩)
theorem kZast (hx : p.tables.exec = Jvm.exec) (hb : c.code = cc) (h : Hv s H locs G cy A w) (q0 : Nat) {n : Nat} {f : Nat → Int32} (ha : w[q0]? = some (a, .inl (cy.2.1, n, .inl f))) {i x : Int32} (hin : vp_in i n) (hdg : decode cc pc = .ok (.bastore, 1))
    (kk : ∀ (H1 : Heap) (locs1 : List Loc), Hv s H1 locs1 G cy A (w.set q0 (a, .inl (cy.2.1, n, .inl (upd f i.toNatClampNeg (vp_nar .boolean x))))) → W p l e R s m args below meth c H1 locs1 cells slots Q (F0 m (pc + 1) ls rest)) : W p l e R s m args below meth c H locs cells slots Q (F0 m pc ls (.int x :: .int i :: .ref a :: rest)) :=
  va_zast hx hb h.1 h.2.1 h.2.2.1 h.2.2.2.1 q0 1 ha rfl hin hdg (fun H1 locs1 hP hD hS => kk H1 locs1 ⟨h.1, hP, hD, hS, h.2.2.2.2⟩)
end KR
