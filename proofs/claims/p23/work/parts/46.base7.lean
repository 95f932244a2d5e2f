/-! constructors: cells that are made -/
def zcast : List Cond := lw_tbl.filter (fun w => match w with
  | .castable .. => true
  | _ => false)
abbrev zAmb (U : State) : Prop := zNest U ∧ va_AO RX8 U ∧ va_AO RX5 U ∧ ∀ w ∈ zcast, va_Nw w U
theorem zAmb_warm {s U : State} (hW : s.WarmedH U.vm) (h : zAmb s) : zAmb U := ⟨znw_warm hW h.1, va_AO.moved hW.alike h.2.1, va_AO.moved hW.alike h.2.2.1, fun w hw => by
  have hf := (List.mem_filter.mp hw).2
  have h0 := h.2.2.2 w hw
  cases w <;> first | exact va_Nw.warmC hW h0 | (simp at hf; done)⟩
theorem zAmb_same {u U : State} (e : u.vm = U.vm) (h : zAmb u) : zAmb U := ⟨znw_same e h.1, va_AO.moved (by rw [e]; exact Vm.Alike.refl _) h.2.1, va_AO.moved (by rw [e]; exact Vm.Alike.refl _) h.2.2.1, fun w hw => by
  have hf := (List.mem_filter.mp hw).2
  have h0 := h.2.2.2 w hw
  cases w <;> first | exact va_Nw.same rfl e h0 | (simp at hf; done)⟩
def zMc (l : Launch) (y : MethodName) (wl : List Cond) (rm : Room) (D : va_G) (TY : List (ClassId × FieldType)) (av : List Value) (w0 : va_W) (W1 : (Nat → Nat) → va_W) (mc ms : Nat) : Prop := ∀ sz : Nat, Met l y wl rm (va_Pc av (fun U => zPre D TY w0 sz U ∧ zAmb U)) (va_Qv (fun (_ : Nat → Nat) => True) (fun u => zPost D TY (va_A w0 sz) (W1 u)) (va_A w0 sz)) mc ms (va_A w0 sz)
abbrev zFc (below : List Frame) (av : List Value) (s : State) (A : Nat → Prop) (D : va_G) (TY : List (ClassId × FieldType)) (W1 : (Nat → Nat) → va_W) (mc ms : Nat) : State → Prop := MQ below (va_Qv (fun (_ : Nat → Nat) => True) (fun u => zPost D TY A (W1 u)) A) av.toArray s mc ms A
theorem zent_c {l : Launch} {y : MethodName} {own : String} {cc : ByteArray} {n mc ms : Nat} {rm : Room} {D : va_G} {TY : List (ClassId × FieldType)} {av : List Value} {w0 : va_W} {W1 : (Nat → Nat) → va_W} (hy : plainName y.cls = true) (hi : y.name = "<init>") (ho : y.cls = own) (hn : (lg_sl av).length ≤ n)
    (body : ∀ (p : Program) (e : Env) (s : State) (m : MethodId) (below : List Frame) (meth : Method) (c : Code) (A : Nat → Prop) (ls : Array Slot), CallFix p m c cc n s av.toArray (zwl y cc n none) own → meth.sig.returnType = none → meth.locks = false → va_K D classes TY s → va_P D classes w0 s.heap → va_D A w0 → (∀ q : Nat, s.heap.size ≤ q → A q) → lv_has ls n (lv_args 0 av) → zAmb s → meth.name = "<init>" → W p l e rm s m av.toArray below meth c s.heap [] 0 0 (zFc below av s A D TY W1 mc ms) (F0 m 0 ls [])) : zMc l y (zwl y cc n none) rm D TY av w0 W1 mc ms := by
  intro sz
  refine Met.ofW (cc := cc) (maxL := n) (ret := none) hy rfl ?_
  intro p e s m args below meth c s₁ B0 hml hv
  obtain ⟨rfl, ⟨hsz, hP, hK, hD0⟩, hN⟩ := hv
  have hts := atoms_spec (ws := zwl y cc n none) B0.pre
  have hown : s.vm.findClass own = some m.cls := by rw [← ho]; exact findClass_of_methodNamed B0.named
  have hin : meth.name = "<init>" := by rw [← hi]; exact (name_of_methodNamed B0.named B0.method).1
  subst hsz
  have hD := hD0.self (sz := s.heap.size)
  have hl := lv_entry av (n := n) hn
  rw [lg_entry_eq]
  exact body p e s m below meth c (va_A w0 s.heap.size) _ ⟨B0.exec, B0.bytes, hml, hown, hts⟩ B0.returns B0.notSynchronized hK hP hD (fun q h => Or.inr h) hl hN hin
theorem zret_c {p : Program} {l : Launch} {e : Env} {R : Room} {s : State} {m : MethodId} {below : List Frame} {meth : Method} {c : Code} {H : Heap} {locs : List Loc} {cc : ByteArray} {pc n mc ms : Nat} {ls : Array Slot} {D : va_G} {TY : List (ClassId × FieldType)} {A : Nat → Prop} {W1 : (Nat → Nat) → va_W} {av : List Value} {Ts : List Cond} {own : String} (u : Nat → Nat) (S : CallFix p m c cc n s av.toArray Ts own) (hr : meth.sig.returnType = none) (hlocks : meth.locks = false) (hK : va_K D classes TY s) (hP : va_P D classes (W1 u) H) (hD : va_D A (W1 u)) (hS : va_S A s.heap H locs) (hdg : decode cc pc = .ok (.return_, 1)) : W p l e R s m av.toArray below meth c H locs mc ms (zFc below av s A D TY W1 mc ms) (F0 m pc ls []) :=
  W.vret S.1 S.2.1 hr (fun t ht hW => ⟨⟨u, rfl, trivial, by rw [ht]; exact hP, va_K.moved hW.alike hK, hD⟩, hS.F ht⟩) hS.2.2 hdg hlocks
theorem zra_i {U : State} {a b : ClassId} (h1 : va_RA U a .int) (h2 : va_RA U b .int) : a = b := Option.some.inj (h1.symm.trans h2)
theorem zra_z {U : State} {a b : ClassId} (h1 : va_RA U a .boolean) (h2 : va_RA U b .boolean) : a = b := Option.some.inj (h1.symm.trans h2)
theorem zra_o {U : State} {a b : ClassId} {C : String} (h1 : va_RA U a (.object C)) (h2 : va_RA U b (.object C)) : a = b := by
  obtain ⟨_, _, _, _, _, h1⟩ := h1
  obtain ⟨_, _, _, _, _, h2⟩ := h2
  exact Option.some.inj (h1.symm.trans h2)
def zLi (own : String) (index : Nat) (y : MethodName) (cc : ByteArray) (n : Nat) (k : Nat) : Prop := ((.methodLink own index y : Cond) ∈ zt ∧ (.instanceMethod y : Cond) ∈ zt ∧ (.initialized y.cls : Cond) ∈ zt ∧ (.code y cc n none : Cond) ∈ zt) ∧ y.name = "<init>" ∧ y.cls ≠ "java/lang/invoke/MethodHandle" ∧ y.cls ≠ "java/lang/invoke/VarHandle" ∧ (parseMethodDescriptor y.desc).map (fun d => d.parameters.length) = some k
def zLn (own : String) (index : Nat) (y : MethodName) (host : String) (cc : ByteArray) (n : Nat) (k : Nat) : Prop := ((.methodLinkNest own index y host : Cond) ∈ znw ∧ (.instanceMethod y : Cond) ∈ zt ∧ (.initialized y.cls : Cond) ∈ zt ∧ (.code y cc n none : Cond) ∈ zt) ∧ y.name = "<init>" ∧ y.cls ≠ "java/lang/invoke/MethodHandle" ∧ y.cls ≠ "java/lang/invoke/VarHandle" ∧ (parseMethodDescriptor y.desc).map (fun d => d.parameters.length) = some k
section ZCC
variable {p : Program} {l : Launch} {e : Env} {R : Room} {s : State} {m : MethodId} {args : Array Value} {below : List Frame} {meth : Method} {c : Code} {H : Heap} {locs : List Loc} {cells slots : Nat} {Q : State → Prop}
variable {cc bytes : ByteArray} {pc nL maxL index n mc ms : Nat} {ls : Array Slot} {rest st0 As : List Value} {D : va_G} {TY : List (ClassId × FieldType)} {A : Nat → Prop} {H0 : Heap} {ws wc : va_W} {W1 : (Nat → Nat) → va_W} {Ts : List Cond} {own host : String} {y : MethodName} {rm : Room} {b : Nat}
theorem zblindC {av : List Value} {sz : Nat} : FrameBlind (va_Pc av (fun U => zPre D TY wc sz U ∧ zAmb U)) := fun a U g mk q => by
  obtain ⟨q0, ⟨q1, qP, qK, qD⟩, qN⟩ := q
  exact ⟨q0, ⟨q1, qP, va_K.moved (u := U) (U := U.calling g mk a) (Vm.Alike.refl U.vm) qK, qD⟩, zAmb_same (u := U) (U := U.calling g mk a) rfl qN⟩
theorem zpreC (hN : zAmb s) (hK : va_K D classes TY s) (hP : va_P D classes ws H) (hD : va_D A ws) (isC : List Nat) (hC : isC.map (fun i => ws[i]?) = wc.map some) (hn : va_nd isC = true) : PreS s H (va_Pc (.ref b :: As) (fun U => zPre D TY wc H.size U ∧ zAmb U)) (.ref b :: As) :=
  ⟨zblindC, fun U hU hW => ⟨rfl, (zpre (av := .ref b :: As) hK hP hD isC hC hn U hU hW).2, zAmb_warm hW hN⟩⟩
theorem zaftC {a : Array Value} (hr : va_Run p l e R s m args below meth c H locs cells slots mc ms (F0 m pc ls st0) rest (va_Qv (fun (_ : Nat → Nat) => True) (fun u => zPost D TY (va_A wc H.size) (W1 u)) (va_A wc H.size) a) (va_A wc H.size)) (hP : va_P D classes ws H) (hD : va_D A ws) (hS : va_S A H0 H locs) (hA : ∀ q : Nat, H0.size ≤ q → A q) (isC isR : List Nat) (hC : isC.map (fun i => ws[i]?) = wc.map some) (hR : (isR.all (fun i => Nat.blt i ws.length)) = true) (hnr : va_nd isR = true) (hdis : (isR.all (fun i => !isC.contains i)) = true)
    (kk : ∀ (u : Nat → Nat) (H1 : Heap) (locs1 : List Loc), va_P D classes (isR.filterMap (fun i => ws[i]?) ++ W1 u) H1 → va_D A (isR.filterMap (fun i => ws[i]?) ++ W1 u) → va_S A H0 H1 locs1 → W p l e R s m args below meth c H1 locs1 (cells + mc) (slots + ms) Q (F0 m (pc + 3) ls rest)) : W p l e R s m args below meth c H locs cells slots Q (F0 m pc ls st0) := by
  have hF := va_free (wc := wc) hD hS hA isC hC
  refine va_callv hr hS (fun q _ h => hF q h) hF (fun u t H1 locs1 ht hvm hw hB hz1 hk1 hS1 => ?_)
  obtain ⟨hP1, -, hD1⟩ := hB
  rw [ht] at hP1
  obtain ⟨hP2, hD2⟩ := va_join (wr := isR.filterMap (fun i => ws[i]?)) (w1 := W1 u) hP hD isC isR hC (zfr hR) hnr (zdis hdis) hk1 hF hP1 hD1
  exact kk u H1 locs1 hP2 hD2 hS1
theorem zci (S : CallFix p m c cc nL s args Ts own) (hT : ∀ w ∈ zt, w ∈ Ts) (lk : zLi own index y bytes maxL n) (hM : zMc l y (zwl y bytes maxL none) rm D TY (.ref b :: As) wc W1 mc ms) (hrm : rm.cells = mc ∧ rm.slots = ms ∧ rm.frames + 1 ≤ R.frames ∧ 8 + (maxL + 11) + rm.locals ≤ R.locals) (hN : zAmb s)
    (hK : va_K D classes TY s) (hP : va_P D classes ws H) (hD : va_D A ws) (hS : va_S A H0 H locs) (hA : ∀ q : Nat, H0.size ≤ q → A q) (isC isR : List Nat) (hC : isC.map (fun i => ws[i]?) = wc.map some) (hnc : va_nd isC = true) (hR : (isR.all (fun i => Nat.blt i ws.length)) = true) (hnr : va_nd isR = true) (hdis : (isR.all (fun i => !isC.contains i)) = true)
    (hn : As.length = n) (hsize : ls.size = nL) (hst : st0 = As.reverse ++ .ref b :: rest) (hW : (rest.map fun v => v.category).sum ≤ 8) (hdg : decode cc pc = .ok (.invokespecial index, 3)) (hf : cells + mc ≤ R.cells ∧ slots + ms ≤ R.slots)
    (kk : ∀ (u : Nat → Nat) (H1 : Heap) (locs1 : List Loc), va_P D classes (isR.filterMap (fun i => ws[i]?) ++ W1 u) H1 → va_D A (isR.filterMap (fun i => ws[i]?) ++ W1 u) → va_S A H0 H1 locs1 → W p l e R s m args below meth c H1 locs1 (cells + mc) (slots + ms) Q (F0 m (pc + 3) ls rest)) : W p l e R s m args below meth c H locs cells slots Q (F0 m pc ls st0) := by
  have ht : ∀ w ∈ zt, w.before args s = true := fun w h => S.2.2.2.2 w (hT w h)
  obtain ⟨⟨k1, k2, k3, k4⟩, k5, k6, k7, k8⟩ := lk
  exact zaftC (va_runI S (hM H.size) ⟨callB_of n S.2.2.2.2 (zG hT k4) rfl hrm.1 hrm.2.1 (ht _ k3) (ht _ k1) ⟨k6, k7, k8⟩ hrm.2.2, k5, ht _ k2⟩ (zpreC hN hK hP hD isC hC hnc) rfl hn hsize hst (lv_room hW) hdg hf) hP hD hS hA isC isR hC hR hnr hdis kk
theorem zcin (S : CallFix p m c cc nL s args Ts own) (hT : ∀ w ∈ zt, w ∈ Ts) (lk : zLn own index y host bytes maxL n) (hM : zMc l y (zwl y bytes maxL none) rm D TY (.ref b :: As) wc W1 mc ms) (hrm : rm.cells = mc ∧ rm.slots = ms ∧ rm.frames + 1 ≤ R.frames ∧ 8 + (maxL + 11) + rm.locals ≤ R.locals) (hN : zAmb s)
    (hK : va_K D classes TY s) (hP : va_P D classes ws H) (hD : va_D A ws) (hS : va_S A H0 H locs) (hA : ∀ q : Nat, H0.size ≤ q → A q) (isC isR : List Nat) (hC : isC.map (fun i => ws[i]?) = wc.map some) (hnc : va_nd isC = true) (hR : (isR.all (fun i => Nat.blt i ws.length)) = true) (hnr : va_nd isR = true) (hdis : (isR.all (fun i => !isC.contains i)) = true)
    (hn : As.length = n) (hsize : ls.size = nL) (hst : st0 = As.reverse ++ .ref b :: rest) (hW : (rest.map fun v => v.category).sum ≤ 8) (hdg : decode cc pc = .ok (.invokespecial index, 3)) (hf : cells + mc ≤ R.cells ∧ slots + ms ≤ R.slots)
    (kk : ∀ (u : Nat → Nat) (H1 : Heap) (locs1 : List Loc), va_P D classes (isR.filterMap (fun i => ws[i]?) ++ W1 u) H1 → va_D A (isR.filterMap (fun i => ws[i]?) ++ W1 u) → va_S A H0 H1 locs1 → W p l e R s m args below meth c H1 locs1 (cells + mc) (slots + ms) Q (F0 m (pc + 3) ls rest)) : W p l e R s m args below meth c H locs cells slots Q (F0 m pc ls st0) := by
  have ht : ∀ w ∈ zt, w.before args s = true := fun w h => S.2.2.2.2 w (hT w h)
  obtain ⟨⟨k1, k2, k3, k4⟩, k5, k6, k7, k8⟩ := lk
  have cw : va_CN R s args own index y host bytes maxL none (zwl y bytes maxL none) rm mc ms n := va_cnB n S.2.2.2.2 (zG hT k4) rfl hrm.1 hrm.2.1 (hN.1 _ k1) (ht _ k3) ⟨k6, k7, k8⟩ hrm.2.2
  exact zaftC (va_runIN S (hM H.size) ⟨cw, k5, ht _ k2⟩ (zpreC hN hK hP hD isC hC hnc) rfl hn hsize hst (lv_room hW) hdg hf) hP hD hS hA isC isR hC hR hnr hdis kk
theorem znewi {cI : ClassId} (hexec : p.tables.exec = Jvm.exec) (hb : c.code = cc) (harr : (Cond.arrayClass .int).before args s = true) (hK : va_K D classes TY s) (ht0 : TY[0]? = some (cI, .int)) (hP : va_P D classes ws H) (hD : va_D A ws) (hS : va_S A H0 H locs) (hA : ∀ q : Nat, H0.size ≤ q → A q)
    {n : Int32} {N' : Nat} (hn : ¬ n < 0) (hN : n.toNatClampNeg = N') (hbytes : N' * componentBytes .int ≤ 536870912) (hcells : cells + 1 ≤ R.cells) (hslots : slots + N' ≤ R.slots) (hdg : decode cc pc = .ok (.newarray .int, 2))
    (kk : ∀ (q : Nat) (H1 : Heap), va_P D classes (ws ++ [(q, .inl (cI, N', .inl (fun _ => 0)))]) H1 → va_D A (ws ++ [(q, .inl (cI, N', .inl (fun _ => 0)))]) → va_S A H0 H1 locs → W p l e R s m args below meth c H1 locs (cells + 1) (slots + N') Q (F0 m (pc + 2) ls (.ref q :: rest))) : W p l e R s m args below meth c H locs cells slots Q (F0 m pc ls (.int n :: rest)) := by
  refine va_newa (atype := .int) (ty := .int) (a0 := (N', .inl (fun _ => 0))) hexec hb harr rfl hK hP hD hS hA (fun cA => rfl) hn hN hbytes hcells hslots hdg (fun q cA H1 hK1 hP1 hD1 hS1 => ?_)
  have e1 : (TY ++ [(cA, FieldType.int)])[TY.length]? = some (cA, .int) := by simp
  have e : cA = cI := zra_i (hK1.2 _ _ e1).2 (hK.2 0 _ ht0).2
  subst e
  exact kk q H1 hP1 hD1 hS1
theorem znewz {cZ : ClassId} (hexec : p.tables.exec = Jvm.exec) (hb : c.code = cc) (harr : (Cond.arrayClass .boolean).before args s = true) (hK : va_K D classes TY s) (ht0 : TY[1]? = some (cZ, .boolean)) (hP : va_P D classes ws H) (hD : va_D A ws) (hS : va_S A H0 H locs) (hA : ∀ q : Nat, H0.size ≤ q → A q)
    {n : Int32} {N' : Nat} (hn : ¬ n < 0) (hN : n.toNatClampNeg = N') (hbytes : N' * componentBytes .boolean ≤ 536870912) (hcells : cells + 1 ≤ R.cells) (hslots : slots + N' ≤ R.slots) (hdg : decode cc pc = .ok (.newarray .boolean, 2))
    (kk : ∀ (q : Nat) (H1 : Heap), va_P D classes (ws ++ [(q, .inl (cZ, N', .inl (fun _ => 0)))]) H1 → va_D A (ws ++ [(q, .inl (cZ, N', .inl (fun _ => 0)))]) → va_S A H0 H1 locs → W p l e R s m args below meth c H1 locs (cells + 1) (slots + N') Q (F0 m (pc + 2) ls (.ref q :: rest))) : W p l e R s m args below meth c H locs cells slots Q (F0 m pc ls (.int n :: rest)) := by
  refine va_newa (atype := .boolean) (ty := .boolean) (a0 := (N', .inl (fun _ => 0))) hexec hb harr rfl hK hP hD hS hA (fun cA => rfl) hn hN hbytes hcells hslots hdg (fun q cA H1 hK1 hP1 hD1 hS1 => ?_)
  have e1 : (TY ++ [(cA, FieldType.boolean)])[TY.length]? = some (cA, .boolean) := by simp
  have e : cA = cZ := zra_z (hK1.2 _ _ e1).2 (hK.2 1 _ ht0).2
  subst e
  exact kk q H1 hP1 hD1 hS1
theorem znewq {cS : ClassId} {C : String} (t0 : Nat) (hexec : p.tables.exec = Jvm.exec) (hb : c.code = cc) (hown : s.vm.findClass own = some m.cls) (hclink : (Cond.classLink own index C).before args s = true) (hover : va_AO C s) (hK : va_K D classes TY s) (ht0 : TY[t0]? = some (cS, .object C)) (hP : va_P D classes ws H) (hD : va_D A ws) (hS : va_S A H0 H locs) (hA : ∀ q : Nat, H0.size ≤ q → A q)
    {n : Int32} {N' : Nat} (hn : ¬ n < 0) (hN : n.toNatClampNeg = N') (hbytes : N' * 4 ≤ 536870912) (hcells : cells + 1 ≤ R.cells) (hslots : slots + N' ≤ R.slots) (hdg : decode cc pc = .ok (.anewarray index, 3))
    (kk : ∀ (q : Nat) (H1 : Heap), va_P D classes (ws ++ [(q, .inl (cS, N', .inr (.inr (.inr (.inr (fun _ => none))))))]) H1 → va_D A (ws ++ [(q, .inl (cS, N', .inr (.inr (.inr (.inr (fun _ => none))))))]) → va_S A H0 H1 locs → W p l e R s m args below meth c H1 locs (cells + 1) (slots + N') Q (F0 m (pc + 3) ls (.ref q :: rest))) : W p l e R s m args below meth c H locs cells slots Q (F0 m pc ls (.int n :: rest)) := by
  refine va_newq hexec hb hown hclink hover hK hP hD hS hA hn hN hbytes hcells hslots hdg (fun q cA H1 hK1 hP1 hD1 hS1 => ?_)
  have e1 : (TY ++ [(cA, FieldType.object C)])[TY.length]? = some (cA, .object C) := by simp
  have e : cA = cS := zra_o (hK1.2 _ _ e1).2 (hK.2 t0 _ ht0).2
  subst e
  exact kk q H1 hP1 hD1 hS1
end ZCC
