/-! private members of a nest mate, overriding methods, super -/
def znw : List Cond := lw_tbl.filter (fun w => match w with
  | .fieldLinkNest .. => true
  | .methodLinkNest .. => true
  | _ => false)
abbrev zNest (U : State) : Prop := ∀ w ∈ znw, va_Nw w U
theorem znw_warm {s U : State} (hW : s.WarmedH U.vm) (h : zNest s) : zNest U := fun w hw => by
  have hf := (List.mem_filter.mp hw).2
  have h0 := h w hw
  cases w <;> first | exact va_Nw.warmF hW h0 | exact va_Nw.warmM hW h0 | (simp at hf; done)
theorem znw_same {u U : State} (e : u.vm = U.vm) (h : zNest u) : zNest U := fun w hw => by
  have hf := (List.mem_filter.mp hw).2
  have h0 := h w hw
  cases w <;> first | exact va_Nw.same rfl e h0 | (simp at hf; done)
theorem znw_of {args : Array Value} {s : State} (h : ∀ w ∈ lw_tbl, w.before args s = true) : zNest s := fun w hw => by
  have hf := (List.mem_filter.mp hw).2
  have h0 := h w (List.mem_filter.mp hw).1
  cases w <;> first | exact va_Nw.of rfl h0 | (simp at hf; done)
def zMni (l : Launch) (y : MethodName) (wl : List Cond) (rm : Room) (D : va_G) (TY : List (ClassId × FieldType)) (av : List Value) (w0 w1 : va_W) (r : Int32) : Prop := ∀ sz : Nat, Met l y wl rm (va_Pc av (fun U => zPre D TY w0 sz U ∧ zNest U)) (va_Qi (fun (r' : Int32) (_ : Unit) => r' = r) (fun _ => zPost D TY (va_A w0 sz) w1) (va_A w0 sz)) 0 0 (va_A w0 sz)
theorem zent_ni {l : Launch} {y : MethodName} {own : String} {cc : ByteArray} {n : Nat} {ty : FieldType} {rm : Room} {D : va_G} {TY : List (ClassId × FieldType)} {av : List Value} {w0 w1 : va_W} {r : Int32} (hy : plainName y.cls = true) (ho : y.cls = own) (hn : (lg_sl av).length ≤ n)
    (body : ∀ (p : Program) (e : Env) (s : State) (m : MethodId) (below : List Frame) (meth : Method) (c : Code) (A : Nat → Prop) (ls : Array Slot), CallFix p m c cc n s av.toArray (zwl y cc n (some ty)) own → meth.sig.returnType = some ty → meth.locks = false → va_K D classes TY s → va_P D classes w0 s.heap → va_D A w0 → (∀ q : Nat, s.heap.size ≤ q → A q) → lv_has ls n (lv_args 0 av) → zNest s → W p l e rm s m av.toArray below meth c s.heap [] 0 0 (zFi below av s A D TY w1 r) (F0 m 0 ls [])) : zMni l y (zwl y cc n (some ty)) rm D TY av w0 w1 r := by
  intro sz
  refine Met.ofW (cc := cc) (maxL := n) (ret := some ty) hy rfl ?_
  intro p e s m args below meth c s₁ B0 hml hv
  obtain ⟨rfl, ⟨hsz, hP, hK, hD0⟩, hN⟩ := hv
  have hts := atoms_spec (ws := zwl y cc n (some ty)) B0.pre
  have hown : s.vm.findClass own = some m.cls := by rw [← ho]; exact findClass_of_methodNamed B0.named
  subst hsz
  have hD := hD0.self (sz := s.heap.size)
  have hl := lv_entry av (n := n) hn
  rw [lg_entry_eq]
  exact body p e s m below meth c (va_A w0 s.heap.size) _ ⟨B0.exec, B0.bytes, hml, hown, hts⟩ B0.returns B0.notSynchronized hK hP hD (fun q h => Or.inr h) hl hN
def zLo (own : String) (index : Nat) (C : String) (x y : MethodName) (cc : ByteArray) (n : Nat) (ret : Option FieldType) (k : Nat) : Prop := ((.methodLink own index x : Cond) ∈ zt ∧ (.sameMethod x.cls x.cls x.name x.desc : Cond) ∈ zt ∧ (.instanceMethod x : Cond) ∈ zt ∧ (.selects C x y : Cond) ∈ zt ∧ (.instanceMethod y : Cond) ∈ zt ∧ (.initialized y.cls : Cond) ∈ zt ∧ (.code y cc n ret : Cond) ∈ zt ∧ ∃ b0 m0 r0, (.code x b0 m0 r0 : Cond) ∈ zt) ∧ x.cls ≠ "java/lang/invoke/MethodHandle" ∧ x.cls ≠ "java/lang/invoke/VarHandle" ∧ (parseMethodDescriptor x.desc).map (fun d => d.parameters.length) = some k
def zLu (own : String) (index : Nat) (y : MethodName) (cc : ByteArray) (n : Nat) (ret : Option FieldType) (k : Nat) : Prop := ((.methodLink own index y : Cond) ∈ zt ∧ (.sameMethod y.cls y.cls y.name y.desc : Cond) ∈ zt ∧ (.superclass own y.cls : Cond) ∈ zt ∧ (.instanceMethod y : Cond) ∈ zt ∧ (.initialized y.cls : Cond) ∈ zt ∧ (.code y cc n ret : Cond) ∈ zt) ∧ y.name ≠ "<init>" ∧ (parseMethodDescriptor y.desc).map (fun d => d.parameters.length) = some k
section ZCN
variable {p : Program} {l : Launch} {e : Env} {R : Room} {s : State} {m : MethodId} {args : Array Value} {below : List Frame} {meth : Method} {c : Code} {H : Heap} {locs : List Loc} {cells slots : Nat} {Q : State → Prop}
variable {cc bytes : ByteArray} {pc nL maxL index n : Nat} {ls : Array Slot} {rest st0 As : List Value} {D : va_G} {TY : List (ClassId × FieldType)} {A : Nat → Prop} {H0 : Heap} {ws wc wc1 ws1 : va_W} {Ts : List Cond} {own C : String} {x y : MethodName} {ret : Option FieldType} {rm : Room} {b ci qr : Nat} {fs : List Value} {q : vw_C}
theorem zblindN {av : List Value} {sz : Nat} : FrameBlind (va_Pc av (fun U => zPre D TY wc sz U ∧ zNest U)) := fun a U g mk q => by
  obtain ⟨q0, ⟨q1, qP, qK, qD⟩, qN⟩ := q
  exact ⟨q0, ⟨q1, qP, va_K.moved (u := U) (U := U.calling g mk a) (Vm.Alike.refl U.vm) qK, qD⟩, znw_same (u := U) (U := U.calling g mk a) rfl qN⟩
theorem zpreN (hN : zNest s) (hK : va_K D classes TY s) (hP : va_P D classes ws H) (hD : va_D A ws) (isC : List Nat) (hC : isC.map (fun i => ws[i]?) = wc.map some) (hn : va_nd isC = true) (hq : ws[qr]? = some (b, .inr (ci, fs))) (hcl : classes[ci]? = some q) (hqc : q.1 = C) : PreV s H C b (va_Pc (.ref b :: As) (fun U => zPre D TY wc H.size U ∧ zNest U)) As :=
  ⟨zblindN, by rw [← hqc]; exact va_recv hK hP hcl hq, fun U hU hW => ⟨rfl, (zpre (av := .ref b :: As) hK hP hD isC hC hn U hU hW).2, znw_warm hW hN⟩⟩
theorem zco_ni {r : Int32} (S : CallFix p m c cc nL s args Ts own) (hT : ∀ w ∈ zt, w ∈ Ts) (lk : zLo own index C x y bytes maxL ret n) (hM : zMni l y (zwl y bytes maxL ret) rm D TY (.ref b :: As) wc wc1 r) (hrm : rm.cells = 0 ∧ rm.slots = 0 ∧ rm.frames + 1 ≤ R.frames ∧ 8 + (maxL + 11) + rm.locals ≤ R.locals) (hN : zNest s)
    (hK : va_K D classes TY s) (hP : va_P D classes ws H) (hD : va_D A ws) (hS : va_S A H0 H locs) (hA : ∀ q : Nat, H0.size ≤ q → A q) (qr : Nat) (isC isR pm : List Nat) (hC : isC.map (fun i => ws[i]?) = wc.map some) (hnc : va_nd isC = true) (hq : ws[qr]? = some (b, .inr (ci, fs))) (hcl : classes[ci]? = some q) (hqc : q.1 = C) (hR : (isR.all (fun i => Nat.blt i ws.length)) = true) (hnr : va_nd isR = true) (hdis : (isR.all (fun i => !isC.contains i)) = true) (hpm : pm.map (fun i => (isR.filterMap (fun i => ws[i]?) ++ wc1)[i]?) = ws1.map some) (hpn : va_nd pm = true)
    (hn : As.length = n) (hsize : ls.size = nL) (hst : st0 = As.reverse ++ .ref b :: rest) (hW : (rest.map fun v => v.category).sum ≤ 8) (hdg : decode cc pc = .ok (.invokevirtual index, 3)) (hf : cells ≤ R.cells ∧ slots ≤ R.slots)
    (kk : ∀ (H1 : Heap) (locs1 : List Loc), va_P D classes ws1 H1 → va_D A ws1 → va_S A H0 H1 locs1 → W p l e R s m args below meth c H1 locs1 cells slots Q (F0 m (pc + 3) ls (.int r :: rest))) : W p l e R s m args below meth c H locs cells slots Q (F0 m pc ls st0) := by
  have hF := va_free (wc := wc) hD hS hA isC hC
  have ht : ∀ w ∈ zt, w.before args s = true := fun w h => S.2.2.2.2 w (hT w h)
  obtain ⟨⟨k1, k2, k3, k4, k5, k6, k7, b0, m0, r0, k8⟩, k9, k10, k11⟩ := lk
  have cw : va_CU R s args own C x.cls index x y bytes maxL ret (zwl y bytes maxL ret) rm 0 0 n := by
    refine ⟨⟨hrm.1, hrm.2.1, hrm.2.2.1, hrm.2.2.2, pay_in S.2.2.2.2 (zG hT k7), List.mem_cons_self⟩, ht _ k7, ht _ k6, ⟨k9, k10⟩, fun sig h => ?_, ht _ k1, ht _ k2, va_Decl.of (ht _ k3) (ht _ k8), ht _ k4, ht _ k5⟩
    rw [h] at k11
    exact (Option.some.inj k11).symm
  refine va_calli (va_runU S (hM H.size) cw (zpreN hN hK hP hD isC hC hnc hq hcl hqc) rfl hn hsize hst (lv_room hW) hdg hf) hS (fun q _ h => hF q h) hF (fun r' u t H1 locs1 ht hvm hw hB hz1 hk1 hS1 => ?_)
  subst hw
  obtain ⟨hP1, hD1⟩ := zjoin hvm ht hP hD isC isR pm hC hR hnr hdis hpm hpn hk1 hF hB
  exact kk H1 locs1 hP1 hD1 hS1
theorem zcu_ni {r : Int32} (S : CallFix p m c cc nL s args Ts own) (hT : ∀ w ∈ zt, w ∈ Ts) (lk : zLu own index y bytes maxL ret n) (hM : zMni l y (zwl y bytes maxL ret) rm D TY (.ref b :: As) wc wc1 r) (hrm : rm.cells = 0 ∧ rm.slots = 0 ∧ rm.frames + 1 ≤ R.frames ∧ 8 + (maxL + 11) + rm.locals ≤ R.locals) (hN : zNest s)
    (hK : va_K D classes TY s) (hP : va_P D classes ws H) (hD : va_D A ws) (hS : va_S A H0 H locs) (hA : ∀ q : Nat, H0.size ≤ q → A q) (qr : Nat) (isC isR pm : List Nat) (hC : isC.map (fun i => ws[i]?) = wc.map some) (hnc : va_nd isC = true) (hq : ws[qr]? = some (b, .inr (ci, fs))) (hcl : classes[ci]? = some q) (hR : (isR.all (fun i => Nat.blt i ws.length)) = true) (hnr : va_nd isR = true) (hdis : (isR.all (fun i => !isC.contains i)) = true) (hpm : pm.map (fun i => (isR.filterMap (fun i => ws[i]?) ++ wc1)[i]?) = ws1.map some) (hpn : va_nd pm = true)
    (hn : As.length = n) (hsize : ls.size = nL) (hst : st0 = As.reverse ++ .ref b :: rest) (hW : (rest.map fun v => v.category).sum ≤ 8) (hdg : decode cc pc = .ok (.invokespecial index, 3)) (hf : cells ≤ R.cells ∧ slots ≤ R.slots)
    (kk : ∀ (H1 : Heap) (locs1 : List Loc), va_P D classes ws1 H1 → va_D A ws1 → va_S A H0 H1 locs1 → W p l e R s m args below meth c H1 locs1 cells slots Q (F0 m (pc + 3) ls (.int r :: rest))) : W p l e R s m args below meth c H locs cells slots Q (F0 m pc ls st0) := by
  have hF := va_free (wc := wc) hD hS hA isC hC
  have ht : ∀ w ∈ zt, w.before args s = true := fun w h => S.2.2.2.2 w (hT w h)
  obtain ⟨⟨k1, k2, k3, k4, k5, k6⟩, k7, k8⟩ := lk
  have cw : va_CS R s args own index y bytes maxL ret (zwl y bytes maxL ret) rm 0 0 n := by
    refine ⟨⟨hrm.1, hrm.2.1, hrm.2.2.1, hrm.2.2.2, pay_in S.2.2.2.2 (zG hT k6), List.mem_cons_self⟩, ht _ k1, ht _ k2, ht _ k3, ht _ k4, ht _ k5, ht _ k6, k7, fun sig h => ?_⟩
    rw [h] at k8
    exact (Option.some.inj k8).symm
  refine va_calli (va_runSU (C := q.1) (hK.1 ci q hcl).2 S (hM H.size) cw (zpreN hN hK hP hD isC hC hnc hq hcl rfl) rfl hn hsize hst (lv_room hW) hdg hf) hS (fun q _ h => hF q h) hF (fun r' u t H1 locs1 ht hvm hw hB hz1 hk1 hS1 => ?_)
  subst hw
  obtain ⟨hP1, hD1⟩ := zjoin hvm ht hP hD isC isR pm hC hR hnr hdis hpm hpn hk1 hF hB
  exact kk H1 locs1 hP1 hD1 hS1
end ZCN
