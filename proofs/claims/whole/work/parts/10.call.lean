/-- thrown over the frame -/
def GoT (G : gC) (X : gX) (nL kc ks pc : Nat) (ls : List (Option Value)) (st : List Value) (M : Mem) (x : Nat) : Prop := match X with
  | (p, l, e, R, s, m, args, below, meth, c, Q) => ∀ (H : Heap) (locs : List Loc) (la : Array Slot), va_P G.1 vwCl (gw G M) H → va_S (gA G) s.heap H locs → lh la nL ls → ∀ (q : Addr) (ce : Cell), H[q]? = some ce → ce.vm = .none → s.vm.findClass (exN x) = some ce.cls → vx_W p l e R s m args below meth c H locs kc ks Q (F0 m pc la st) q
/-- a method that is called by its receiver: of the class c, with n arguments -/
def MV (own : String) (idx c : Nat) (y : MethodName) (cw : Cond) (n : Nat) : Prop := (∃ (T : u_T) (N : Nat), vwCl[c]? = some (y.cls, T, N)) ∧ Cond.methodLink own idx y ∈ GT ∧ Cond.instanceMethod y ∈ GT ∧ Cond.selects y.cls y y ∈ GT ∧ Cond.initialized y.cls ∈ GT ∧ cw ∈ GT ∧ y.cls ≠ "java/lang/invoke/MethodHandle" ∧ y.cls ≠ "java/lang/invoke/VarHandle" ∧ (parseMethodDescriptor y.desc).map (fun d => d.parameters.length) = some n
def MS (own : String) (idx : Nat) (y : MethodName) (cw : Cond) (n : Nat) : Prop := Cond.methodLink own idx y ∈ GT ∧ Cond.static y ∈ GT ∧ Cond.initialized y.cls ∈ GT ∧ cw ∈ GT ∧ y.cls ≠ "java/lang/invoke/MethodHandle" ∧ y.cls ≠ "java/lang/invoke/VarHandle" ∧ (parseMethodDescriptor y.desc).map (fun d => d.parameters.length) = some n
theorem gt_in {cw : Cond} (h : cw ∈ GT) : GoodIn GT (cw :: GT) := by
  intro w hw
  have hm : w ∈ GT := by
    rcases List.mem_cons.mp hw with e | h2
    · rw [e]; exact h
    · exact h2
  exact ⟨hm, gt_good hm⟩
def oxI (q : Nat ⊕ Int) : Nat ⊕ Option Value := match q with
  | .inl e => .inl e
  | .inr r => .inr (some (.int (iI r)))
def oxV (q : Nat ⊕ Unit) : Nat ⊕ Option Value := match q with
  | .inl e => .inl e
  | .inr _ => .inr none
section GoCall
variable {G : gC} {X : gX} {cc : ByteArray} {nL fr mc ms kc ks pc : Nat} {own : String} {rt : Option FieldType} {tb : List ExceptionTableEntry} {ls : List (Option Value)} {st : List Value} {M M' : Mem}
variable {idx c k fr' mc' ms' n maxL : Nat} {y : MethodName} {cc' : ByteArray} {ret' : Option FieldType} {As rest : List Value} {o : Nat ⊕ Option Value}
theorem go_run {p : Program} {l : Launch} {e : Env} {R : Room} {s : State} {m : MethodId} {args : Array Value} {below : List Frame} {meth : Method} {c : Code} {Q : State → Prop} {H : Heap} {locs : List Loc} {la : Array Slot} {a : Array Value}
    (hr : vx_Run p l e R s m args below meth c H locs kc ks mc' ms' (F0 m pc la st) rest (gQ G o M' a) (gXc G o M') (gA G)) (hS : va_S (gA G) s.heap H locs) (hl : lh la nL ls)
    (kx : ∀ x, o = .inl x → Bd M' → GoT G (p, l, e, R, s, m, args, below, meth, c, Q) nL (kc + mc') (ks + ms') pc ls rest M' x)
    (kk : ∀ v, o = .inr v → Bd M' → Go G (p, l, e, R, s, m, args, below, meth, c, Q) nL (kc + mc') (ks + ms') (pc + 3) ls (v.toList ++ rest) M') : W p l e R s m args below meth c H locs kc ks Q (F0 m pc la st) := by
  intro T hT X
  rcases hr T hT X with ⟨v, st₀, t, T', L, h0, X', hL, e1, e2, ⟨v', ho, hv, hP', hF, hB'⟩, stp⟩ | ⟨q, st₀, t, T', L, E, ce, h0, X', hL, e1, e2, ⟨e', ho, hE, hP', hF, hB'⟩, hce, hcv, hcl, stp⟩
  · cases hv
    obtain ⟨k1, k2, k3⟩ := vx_keep h0 e1 hS (fun _ _ h => h) (fun _ h => h) hL hF
    obtain ⟨t2, a1, b1⟩ := kk v ho hB' T'.heap (locs ++ L) la (by rw [e1]; exact hP') k3 hl T' rfl X'
    exact ⟨t2, stp t2 a1, b1⟩
  · obtain ⟨k1, k2, k3⟩ := vx_keep h0 e1 hS (fun _ _ h => h) (fun _ h => h) hL hF
    subst hE
    obtain ⟨t2, a1, b1⟩ := kx e' ho hB' T'.heap (locs ++ L) la (by rw [e1]; exact hP') k3 hl q ce (by rw [e1]; exact hce) hcv hcl T' rfl X'
    exact ⟨t2, stp.trans a1, b1⟩
theorem go_callV (C : Cx G X cc nL own fr mc ms rt tb) (d : decode cc pc = .ok (.invokevirtual idx, 3)) (hM : Ok G X.2.1 fr' mc' ms' y (.code y cc' maxL ret') (rf G k :: As) M o M') (hv : MV own idx c y (.code y cc' maxL ret') n) (hs : shT[k]? = some (.inl c)) (hn : As.length = n) (hst : st = As.reverse ++ rf G k :: rest) (hcat : (rest.map fun v => v.category).sum ≤ 8) (hR : fr' + 1 ≤ fr ∧ maxL ≤ 16) (hc : kc + mc' ≤ mc ∧ ks + ms' ≤ ms)
    (kx : ∀ x, o = .inl x → Bd M' → GoT G X nL (kc + mc') (ks + ms') pc ls rest M' x) (kk : ∀ v, o = .inr v → Bd M' → Go G X nL (kc + mc') (ks + ms') (pc + 3) ls (v.toList ++ rest) M') : Go G X nL kc ks pc ls st M := by
  obtain ⟨p, l, e, R, s, m, args, below, meth, c9, Q⟩ := X
  intro H locs la hP hS hl
  obtain ⟨c1, c2, c3, c4, c5, c6, c7, c8, ⟨r1, r2, r3, r4⟩, -⟩ := C
  obtain ⟨⟨T, N, hcl⟩, w1, w2, w3, w4, w5, w6, w7, w8⟩ := hv
  have hG : GoodIn GT (wsV own idx y.cls y (.code y cc' maxL ret' :: GT)) := by
    intro w hw
    unfold wsV at hw
    rcases List.mem_append.mp hw with h | h
    · have hm : w ∈ GT := by
        simp only [List.mem_cons, List.not_mem_nil, or_false] at h
        rcases h with rfl | rfl | rfl | rfl
        · exact w1
        · exact w2
        · exact w3
        · exact w4
      exact ⟨hm, gt_good hm⟩
    · exact gt_in w5 w h
  refine go_run (G := G) (a := (rf G k :: As).toArray) (vx_runV (As := As) (rest := rest) (C := y.cls) ⟨c1, c2, c3, c4, c5⟩ hM (cwV n c5 hG rfl rfl rfl ⟨rfl, w6, w7, w8⟩ ⟨?_, ?_⟩) ⟨gPc.blind G _ M, ?_, fun U hU hW => ⟨rfl, by rw [hU]; exact hP, c6.at hS hU hW⟩⟩ rfl hn hl.1 hst (lv_room hcat) d ⟨by omega, by omega⟩) hS hl kx kk
  · show fr' + 1 ≤ R.frames
    omega
  · show 8 + (maxL + 11) + 35 * fr' ≤ R.locals
    omega
  · exact va_recv c6.1 hP hcl (q0 := k) (by rw [gw_at (sh_lt hs), ent_o hs])
theorem go_callS (C : Cx G X cc nL own fr mc ms rt tb) (d : decode cc pc = .ok (.invokestatic idx, 3)) (hM : Ok G X.2.1 fr' mc' ms' y (.code y cc' maxL ret') As M o M') (hv : MS own idx y (.code y cc' maxL ret') n) (hn : As.length = n) (hst : st = As.reverse ++ rest) (hcat : (rest.map fun v => v.category).sum ≤ 8) (hR : fr' + 1 ≤ fr ∧ maxL ≤ 16) (hc : kc + mc' ≤ mc ∧ ks + ms' ≤ ms)
    (kx : ∀ x, o = .inl x → Bd M' → GoT G X nL (kc + mc') (ks + ms') pc ls rest M' x) (kk : ∀ v, o = .inr v → Bd M' → Go G X nL (kc + mc') (ks + ms') (pc + 3) ls (v.toList ++ rest) M') : Go G X nL kc ks pc ls st M := by
  obtain ⟨p, l, e, R, s, m, args, below, meth, c9, Q⟩ := X
  intro H locs la hP hS hl
  obtain ⟨c1, c2, c3, c4, c5, c6, c7, c8, ⟨r1, r2, r3, r4⟩, -⟩ := C
  obtain ⟨w1, w2, w4, w5, w6, w7, w8⟩ := hv
  refine go_run (G := G) (a := As.toArray) (vx_runS (As := As) (rest := rest) ⟨c1, c2, c3, c4, c5⟩ hM ⟨callB_of n c5 (gt_in w5) rfl rfl rfl (c5 _ w4) (c5 _ w1) ⟨w6, w7, w8⟩ ⟨?_, ?_⟩, c5 _ w2⟩ ⟨gPc.blind G _ M, fun U hU hW => ⟨rfl, by rw [hU]; exact hP, c6.at hS hU hW⟩⟩ rfl hn hl.1 hst (lv_room hcat) d ⟨by omega, by omega⟩) hS hl kx kk
  · show fr' + 1 ≤ R.frames
    omega
  · show 8 + (maxL + 11) + 35 * fr' ≤ R.locals
    omega
/-- a method with handlers of its own -/
theorem go_callSX {hh : List (Nat × Nat × Nat × Nat)} (C : Cx G X cc nL own fr mc ms rt tb) (d : decode cc pc = .ok (.invokestatic idx, 3)) (hM : Ok G X.2.1 fr' mc' ms' y (.codeWith y cc' maxL ret' hh) As M o M') (hv : MS own idx y (.codeWith y cc' maxL ret' hh) n) (hn : As.length = n) (hst : st = As.reverse ++ rest) (hcat : (rest.map fun v => v.category).sum ≤ 8) (hR : fr' + 1 ≤ fr ∧ maxL ≤ 16) (hc : kc + mc' ≤ mc ∧ ks + ms' ≤ ms)
    (kx : ∀ x, o = .inl x → Bd M' → GoT G X nL (kc + mc') (ks + ms') pc ls rest M' x) (kk : ∀ v, o = .inr v → Bd M' → Go G X nL (kc + mc') (ks + ms') (pc + 3) ls (v.toList ++ rest) M') : Go G X nL kc ks pc ls st M := by
  obtain ⟨p, l, e, R, s, m, args, below, meth, c9, Q⟩ := X
  intro H locs la hP hS hl
  obtain ⟨c1, c2, c3, c4, c5, c6, c7, c8, ⟨r1, r2, r3, r4⟩, -⟩ := C
  obtain ⟨w1, w2, w4, w5, w6, w7, w8⟩ := hv
  have hG : GoodIn GT (va_wsS own idx y (.codeWith y cc' maxL ret' hh :: GT)) := by
    intro w hw
    unfold va_wsS at hw
    rcases List.mem_append.mp hw with h | h
    · have hm : w ∈ GT := by
        simp only [List.mem_cons, List.not_mem_nil, or_false] at h
        rcases h with rfl | rfl | rfl
        · exact w1
        · exact w2
        · exact w4
      exact ⟨hm, gt_good hm⟩
    · exact gt_in w5 w h
  refine go_run (G := G) (a := As.toArray) (vx_runSX (As := As) (rest := rest) ⟨c1, c2, c3, c4, c5⟩ hM (vx_cwSW n c5 hG rfl rfl rfl ⟨w6, w7, w8⟩ ⟨?_, ?_⟩) ⟨gPc.blind G _ M, fun U hU hW => ⟨rfl, by rw [hU]; exact hP, c6.at hS hU hW⟩⟩ rfl hn hl.1 hst (lv_room hcat) d ⟨by omega, by omega⟩) hS hl kx kk
  · show fr' + 1 ≤ R.frames
    omega
  · show 8 + (maxL + 11) + 35 * fr' ≤ R.locals
    omega
theorem go_callV_i {r : Int} (C : Cx G X cc nL own fr mc ms rt tb) (d : decode cc pc = .ok (.invokevirtual idx, 3)) (hM : Ok G X.2.1 fr' mc' ms' y (.code y cc' maxL ret') (rf G k :: As) M (.inr (some (.int (iI r)))) M') (hv : MV own idx c y (.code y cc' maxL ret') n) (hs : shT[k]? = some (.inl c)) (hn : As.length = n) (hst : st = As.reverse ++ rf G k :: rest) (hcat : (rest.map fun v => v.category).sum ≤ 8) (hR : fr' + 1 ≤ fr ∧ maxL ≤ 16) (hc : kc + mc' ≤ mc ∧ ks + ms' ≤ ms) (kk : Bd M' → Go G X nL (kc + mc') (ks + ms') (pc + 3) ls (.int (iI r) :: rest) M') : Go G X nL kc ks pc ls st M :=
  go_callV C d hM hv hs hn hst hcat hR hc (fun x h => nomatch h) (fun v h hB => by cases h; exact kk hB)
theorem go_callV_v (C : Cx G X cc nL own fr mc ms rt tb) (d : decode cc pc = .ok (.invokevirtual idx, 3)) (hM : Ok G X.2.1 fr' mc' ms' y (.code y cc' maxL ret') (rf G k :: As) M (.inr none) M') (hv : MV own idx c y (.code y cc' maxL ret') n) (hs : shT[k]? = some (.inl c)) (hn : As.length = n) (hst : st = As.reverse ++ rf G k :: rest) (hcat : (rest.map fun v => v.category).sum ≤ 8) (hR : fr' + 1 ≤ fr ∧ maxL ≤ 16) (hc : kc + mc' ≤ mc ∧ ks + ms' ≤ ms) (kk : Bd M' → Go G X nL (kc + mc') (ks + ms') (pc + 3) ls (rest) M') : Go G X nL kc ks pc ls st M :=
  go_callV C d hM hv hs hn hst hcat hR hc (fun x h => nomatch h) (fun v h hB => by cases h; exact kk hB)
theorem go_callV_l {r : Int} (C : Cx G X cc nL own fr mc ms rt tb) (d : decode cc pc = .ok (.invokevirtual idx, 3)) (hM : Ok G X.2.1 fr' mc' ms' y (.code y cc' maxL ret') (rf G k :: As) M (.inr (some (.long (lI r)))) M') (hv : MV own idx c y (.code y cc' maxL ret') n) (hs : shT[k]? = some (.inl c)) (hn : As.length = n) (hst : st = As.reverse ++ rf G k :: rest) (hcat : (rest.map fun v => v.category).sum ≤ 8) (hR : fr' + 1 ≤ fr ∧ maxL ≤ 16) (hc : kc + mc' ≤ mc ∧ ks + ms' ≤ ms) (kk : Bd M' → Go G X nL (kc + mc') (ks + ms') (pc + 3) ls (.long (lI r) :: rest) M') : Go G X nL kc ks pc ls st M :=
  go_callV C d hM hv hs hn hst hcat hR hc (fun x h => nomatch h) (fun v h hB => by cases h; exact kk hB)
theorem go_callV_d {r : UInt64} (C : Cx G X cc nL own fr mc ms rt tb) (d : decode cc pc = .ok (.invokevirtual idx, 3)) (hM : Ok G X.2.1 fr' mc' ms' y (.code y cc' maxL ret') (rf G k :: As) M (.inr (some (.double r))) M') (hv : MV own idx c y (.code y cc' maxL ret') n) (hs : shT[k]? = some (.inl c)) (hn : As.length = n) (hst : st = As.reverse ++ rf G k :: rest) (hcat : (rest.map fun v => v.category).sum ≤ 8) (hR : fr' + 1 ≤ fr ∧ maxL ≤ 16) (hc : kc + mc' ≤ mc ∧ ks + ms' ≤ ms) (kk : Bd M' → Go G X nL (kc + mc') (ks + ms') (pc + 3) ls (.double r :: rest) M') : Go G X nL kc ks pc ls st M :=
  go_callV C d hM hv hs hn hst hcat hR hc (fun x h => nomatch h) (fun v h hB => by cases h; exact kk hB)
theorem go_callV_xi {q : Nat ⊕ Int} (C : Cx G X cc nL own fr mc ms rt tb) (d : decode cc pc = .ok (.invokevirtual idx, 3)) (hM : Ok G X.2.1 fr' mc' ms' y (.code y cc' maxL ret') (rf G k :: As) M (oxI q) M') (hv : MV own idx c y (.code y cc' maxL ret') n) (hs : shT[k]? = some (.inl c)) (hn : As.length = n) (hst : st = As.reverse ++ rf G k :: rest) (hcat : (rest.map fun v => v.category).sum ≤ 8) (hR : fr' + 1 ≤ fr ∧ maxL ≤ 16) (hc : kc + mc' ≤ mc ∧ ks + ms' ≤ ms) (kx : ∀ x, q = .inl x → Bd M' → GoT G X nL (kc + mc') (ks + ms') pc ls rest M' x) (kk : ∀ r, q = .inr r → Bd M' → Go G X nL (kc + mc') (ks + ms') (pc + 3) ls (.int (iI r) :: rest) M') : Go G X nL kc ks pc ls st M := by
  rcases q with e | r
  · exact go_callV C d hM hv hs hn hst hcat hR hc (fun x h hB => by cases h; exact kx _ rfl hB) (fun v h => nomatch h)
  · exact go_callV C d hM hv hs hn hst hcat hR hc (fun x h => nomatch h) (fun v h hB => by cases h; exact kk _ rfl hB)
theorem go_callV_xv {q : Nat ⊕ Unit} (C : Cx G X cc nL own fr mc ms rt tb) (d : decode cc pc = .ok (.invokevirtual idx, 3)) (hM : Ok G X.2.1 fr' mc' ms' y (.code y cc' maxL ret') (rf G k :: As) M (oxV q) M') (hv : MV own idx c y (.code y cc' maxL ret') n) (hs : shT[k]? = some (.inl c)) (hn : As.length = n) (hst : st = As.reverse ++ rf G k :: rest) (hcat : (rest.map fun v => v.category).sum ≤ 8) (hR : fr' + 1 ≤ fr ∧ maxL ≤ 16) (hc : kc + mc' ≤ mc ∧ ks + ms' ≤ ms) (kx : ∀ x, q = .inl x → Bd M' → GoT G X nL (kc + mc') (ks + ms') pc ls rest M' x) (kk : ∀ r, q = .inr r → Bd M' → Go G X nL (kc + mc') (ks + ms') (pc + 3) ls (rest) M') : Go G X nL kc ks pc ls st M := by
  rcases q with e | r
  · exact go_callV C d hM hv hs hn hst hcat hR hc (fun x h hB => by cases h; exact kx _ rfl hB) (fun v h => nomatch h)
  · exact go_callV C d hM hv hs hn hst hcat hR hc (fun x h => nomatch h) (fun v h hB => by cases h; exact kk _ rfl hB)
theorem go_callS_i {r : Int} (C : Cx G X cc nL own fr mc ms rt tb) (d : decode cc pc = .ok (.invokestatic idx, 3)) (hM : Ok G X.2.1 fr' mc' ms' y (.code y cc' maxL ret') As M (.inr (some (.int (iI r)))) M') (hv : MS own idx y (.code y cc' maxL ret') n) (hn : As.length = n) (hst : st = As.reverse ++ rest) (hcat : (rest.map fun v => v.category).sum ≤ 8) (hR : fr' + 1 ≤ fr ∧ maxL ≤ 16) (hc : kc + mc' ≤ mc ∧ ks + ms' ≤ ms) (kk : Bd M' → Go G X nL (kc + mc') (ks + ms') (pc + 3) ls (.int (iI r) :: rest) M') : Go G X nL kc ks pc ls st M :=
  go_callS C d hM hv hn hst hcat hR hc (fun x h => nomatch h) (fun v h hB => by cases h; exact kk hB)
theorem go_callS_v (C : Cx G X cc nL own fr mc ms rt tb) (d : decode cc pc = .ok (.invokestatic idx, 3)) (hM : Ok G X.2.1 fr' mc' ms' y (.code y cc' maxL ret') As M (.inr none) M') (hv : MS own idx y (.code y cc' maxL ret') n) (hn : As.length = n) (hst : st = As.reverse ++ rest) (hcat : (rest.map fun v => v.category).sum ≤ 8) (hR : fr' + 1 ≤ fr ∧ maxL ≤ 16) (hc : kc + mc' ≤ mc ∧ ks + ms' ≤ ms) (kk : Bd M' → Go G X nL (kc + mc') (ks + ms') (pc + 3) ls (rest) M') : Go G X nL kc ks pc ls st M :=
  go_callS C d hM hv hn hst hcat hR hc (fun x h => nomatch h) (fun v h hB => by cases h; exact kk hB)
theorem go_callS_l {r : Int} (C : Cx G X cc nL own fr mc ms rt tb) (d : decode cc pc = .ok (.invokestatic idx, 3)) (hM : Ok G X.2.1 fr' mc' ms' y (.code y cc' maxL ret') As M (.inr (some (.long (lI r)))) M') (hv : MS own idx y (.code y cc' maxL ret') n) (hn : As.length = n) (hst : st = As.reverse ++ rest) (hcat : (rest.map fun v => v.category).sum ≤ 8) (hR : fr' + 1 ≤ fr ∧ maxL ≤ 16) (hc : kc + mc' ≤ mc ∧ ks + ms' ≤ ms) (kk : Bd M' → Go G X nL (kc + mc') (ks + ms') (pc + 3) ls (.long (lI r) :: rest) M') : Go G X nL kc ks pc ls st M :=
  go_callS C d hM hv hn hst hcat hR hc (fun x h => nomatch h) (fun v h hB => by cases h; exact kk hB)
theorem go_callS_d {r : UInt64} (C : Cx G X cc nL own fr mc ms rt tb) (d : decode cc pc = .ok (.invokestatic idx, 3)) (hM : Ok G X.2.1 fr' mc' ms' y (.code y cc' maxL ret') As M (.inr (some (.double r))) M') (hv : MS own idx y (.code y cc' maxL ret') n) (hn : As.length = n) (hst : st = As.reverse ++ rest) (hcat : (rest.map fun v => v.category).sum ≤ 8) (hR : fr' + 1 ≤ fr ∧ maxL ≤ 16) (hc : kc + mc' ≤ mc ∧ ks + ms' ≤ ms) (kk : Bd M' → Go G X nL (kc + mc') (ks + ms') (pc + 3) ls (.double r :: rest) M') : Go G X nL kc ks pc ls st M :=
  go_callS C d hM hv hn hst hcat hR hc (fun x h => nomatch h) (fun v h hB => by cases h; exact kk hB)
theorem go_callS_xi {q : Nat ⊕ Int} (C : Cx G X cc nL own fr mc ms rt tb) (d : decode cc pc = .ok (.invokestatic idx, 3)) (hM : Ok G X.2.1 fr' mc' ms' y (.code y cc' maxL ret') As M (oxI q) M') (hv : MS own idx y (.code y cc' maxL ret') n) (hn : As.length = n) (hst : st = As.reverse ++ rest) (hcat : (rest.map fun v => v.category).sum ≤ 8) (hR : fr' + 1 ≤ fr ∧ maxL ≤ 16) (hc : kc + mc' ≤ mc ∧ ks + ms' ≤ ms) (kx : ∀ x, q = .inl x → Bd M' → GoT G X nL (kc + mc') (ks + ms') pc ls rest M' x) (kk : ∀ r, q = .inr r → Bd M' → Go G X nL (kc + mc') (ks + ms') (pc + 3) ls (.int (iI r) :: rest) M') : Go G X nL kc ks pc ls st M := by
  rcases q with e | r
  · exact go_callS C d hM hv hn hst hcat hR hc (fun x h hB => by cases h; exact kx _ rfl hB) (fun v h => nomatch h)
  · exact go_callS C d hM hv hn hst hcat hR hc (fun x h => nomatch h) (fun v h hB => by cases h; exact kk _ rfl hB)
theorem go_callS_xv {q : Nat ⊕ Unit} (C : Cx G X cc nL own fr mc ms rt tb) (d : decode cc pc = .ok (.invokestatic idx, 3)) (hM : Ok G X.2.1 fr' mc' ms' y (.code y cc' maxL ret') As M (oxV q) M') (hv : MS own idx y (.code y cc' maxL ret') n) (hn : As.length = n) (hst : st = As.reverse ++ rest) (hcat : (rest.map fun v => v.category).sum ≤ 8) (hR : fr' + 1 ≤ fr ∧ maxL ≤ 16) (hc : kc + mc' ≤ mc ∧ ks + ms' ≤ ms) (kx : ∀ x, q = .inl x → Bd M' → GoT G X nL (kc + mc') (ks + ms') pc ls rest M' x) (kk : ∀ r, q = .inr r → Bd M' → Go G X nL (kc + mc') (ks + ms') (pc + 3) ls (rest) M') : Go G X nL kc ks pc ls st M := by
  rcases q with e | r
  · exact go_callS C d hM hv hn hst hcat hR hc (fun x h hB => by cases h; exact kx _ rfl hB) (fun v h => nomatch h)
  · exact go_callS C d hM hv hn hst hcat hR hc (fun x h => nomatch h) (fun v h hB => by cases h; exact kk _ rfl hB)
theorem go_callSX_i {hh : List (Nat × Nat × Nat × Nat)} {r : Int} (C : Cx G X cc nL own fr mc ms rt tb) (d : decode cc pc = .ok (.invokestatic idx, 3)) (hM : Ok G X.2.1 fr' mc' ms' y (.codeWith y cc' maxL ret' hh) As M (.inr (some (.int (iI r)))) M') (hv : MS own idx y (.codeWith y cc' maxL ret' hh) n) (hn : As.length = n) (hst : st = As.reverse ++ rest) (hcat : (rest.map fun v => v.category).sum ≤ 8) (hR : fr' + 1 ≤ fr ∧ maxL ≤ 16) (hc : kc + mc' ≤ mc ∧ ks + ms' ≤ ms) (kk : Bd M' → Go G X nL (kc + mc') (ks + ms') (pc + 3) ls (.int (iI r) :: rest) M') : Go G X nL kc ks pc ls st M :=
  go_callSX C d hM hv hn hst hcat hR hc (fun x h => nomatch h) (fun v h hB => by cases h; exact kk hB)
/-- not caught: it leaves the method -/
theorem go_out {x : Nat} {O : Nat ⊕ Option Value} {M9 : Mem} (C : Cx G X cc nL own fr mc ms rt []) (F : Fnl G X mc ms O M9) (h1 : kc ≤ mc) (h2 : ks ≤ ms) (hO : O = .inl x) (hM : M9 = M) (hB : Bd M) : GoT G X nL kc ks pc ls st M x := by
  obtain ⟨p, l, e, R, s, m, args, below, meth, c, Q⟩ := X
  intro H locs la hP hS hl q ce hce hcv hcl
  obtain ⟨c1, c2, c3, c4, c5, c6, c7, c8, c9, c10, c11⟩ := C
  have F : Q = _ := F
  subst F; subst hM
  refine vx_out (E := exN x) (fun z hz => ?_) c7 hce hcv hcl (fun t ht hA => ⟨x, hO, rfl, by rw [ht]; exact hP, hS.F ht, hB⟩) hS.2.2 h1 h2
  have c11 : c.exceptionTable.toList = [] := c11
  rw [c11] at hz
  cases hz
/-- caught by the handler at the place a of the table -/
theorem go_catch {x : Nat} (pre : List ExceptionTableEntry) (z : ExceptionTableEntry) (suf : List ExceptionTableEntry) (C : Cx G X cc nL own fr mc ms rt tb) (htb : tb = pre ++ z :: suf) (hpre : ∀ w ∈ pre, covers w pc = false ∨ (w.catchType ≠ 0 ∧ ∃ nm : String, Cond.classLink own w.catchType nm ∈ GT ∧ (exN x, nm) ∈ ncT)) (hz : covers z pc = true) (h0 : z.catchType ≠ 0) (hlink : Cond.classLink own z.catchType (exN x) ∈ GT) (hcb : (exN x, exN x) ∈ cbT)
    (k : ∀ q : Nat, Go G X nL kc ks z.handlerPc ls [.ref q] M) : GoT G X nL kc ks pc ls st M x := by
  obtain ⟨p, l, e, R, s, m, args, below, meth, c, Q⟩ := X
  intro H locs la hP hS hl q ce hce hcv hcl
  obtain ⟨c1, c2, c3, c4, c5, c6, c7, c8, c9, c10, c11⟩ := C
  have hcast : (Cond.castable (exN x) (exN x)).before args s = true := va_tabs rfl rfl (c6.2.2.2.2.1 _ hcb)
  refine vx_catch (E := exN x) (name := exN x) c4 pre z suf ((show c.exceptionTable.toList = tb from c11).trans htb) (fun w hw => ?_) hz h0 (c5 _ hlink) hcast hce hcv hcl (k q H locs la hP hS hl)
  rcases hpre w hw with h | ⟨h1, nm, h2, h3⟩
  · exact Or.inl h
  · exact Or.inr ⟨h1, nm, c5 _ h2, c6.2.2.2.2.2.2 _ h3⟩
end GoCall
/-! the entry -/
def leA : List Value → List (Option Value)
  | [] => []
  | .long x :: r => some (.long x) :: none :: leA r
  | .double x :: r => some (.double x) :: none :: leA r
  | v :: r => some v :: leA r
theorem leA_at : ∀ (vs : List Value) (i j : Nat) (w : Value), (leA vs)[j]? = some (some w) → (i + j, w) ∈ lv_args i vs
  | [], i, j, w, h => by simp [leA] at h
  | v :: r, i, j, w, h => by
    have key1 : v.category = 1 → (some v :: leA r)[j]? = some (some w) → (i + j, w) ∈ lv_args i (v :: r) := by
      intro hc h
      cases j with
      | zero => simp at h; subst h; simp [lv_args]
      | succ j =>
        have := leA_at r (i + 1) j w (by simpa using h)
        rw [lv_args, hc]
        refine List.mem_cons_of_mem _ ?_
        rw [show i + (j + 1) = i + 1 + j by omega]
        simpa using this
    have key2 : v.category = 2 → (some v :: none :: leA r)[j]? = some (some w) → (i + j, w) ∈ lv_args i (v :: r) := by
      intro hc h
      match j, h with
      | 0, h => simp at h; subst h; simp [lv_args]
      | 1, h => simp at h
      | j + 2, h =>
        have := leA_at r (i + 2) j w (by simpa using h)
        rw [lv_args, hc]
        refine List.mem_cons_of_mem _ ?_
        rw [show i + (j + 2) = i + 2 + j by omega]
        simpa using this
    cases v with
    | long x => exact key2 rfl h
    | double x => exact key2 rfl h
    | int x => exact key1 rfl h
    | float x => exact key1 rfl h
    | null => exact key1 rfl h
    | ref x => exact key1 rfl h
    | retAddr x => exact key1 rfl h
theorem Cx.hl {G : gC} {X : gX} {cc : ByteArray} {nL fr mc ms : Nat} {own : String} {rt : Option FieldType} {tb : List ExceptionTableEntry} (C : Cx G X cc nL own fr mc ms rt tb) : X.2.1.stackTraces = false := by
  obtain ⟨p, l, e, R, s, m, args, below, meth, c, Q⟩ := X
  exact C.2.2.2.2.2.2.2.1
theorem ok_of {G : gC} {l : Launch} {fr mc ms : Nat} {y : MethodName} {cc : ByteArray} {nL : Nat} {rt : Option FieldType} {av : List Value} {M : Mem} {O : Nat ⊕ Option Value} {M9 : Mem} {ls : List (Option Value)} (hl : l.stackTraces = false) (hy : plainName y.cls = true) (hlen : (lg_sl av).length ≤ nL) (hls : gsb ls (leA av))
    (body : ∀ X : gX, X.2.1 = l → Cx G X cc nL y.cls fr mc ms rt [] → Fnl G X mc ms O M9 → Go G X nL 0 0 0 ls [] M) : Ok G l fr mc ms y (.code y cc nL rt) av M O M9 := by
  refine vx_ofW (cc := cc) (maxL := nL) (ret := rt) hy rfl ?_
  intro p e s m args below meth c s₁ B hml hemp hPc
  obtain ⟨rfl, hP, hK⟩ := hPc
  have hts : ∀ w ∈ (Cond.code y cc nL rt :: GT), w.before av.toArray s = true := atoms_spec (ws := Cond.code y cc nL rt :: GT) B.pre
  have h := body (p, l, e, rmF fr mc ms, s, m, av.toArray, below, meth, c, vx_MQ below (gQ G O M9) (gXc G O M9) av.toArray s mc ms (gA G)) rfl
    ⟨B.exec, B.bytes, hml, findClass_of_methodNamed B.named, fun w hw => hts w (List.mem_cons_of_mem _ hw), hK, B.notSynchronized, hl, ⟨Nat.le_refl _, Nat.le_refl _, Nat.le_refl _, Nat.le_refl _⟩, B.returns, List.eq_nil_iff_forall_not_mem.mpr (fun x hx => hemp x hx)⟩ rfl
  have he := lv_entry av (n := nL) hlen
  rw [lg_entry_eq]
  refine h s.heap [] _ hP va_S.rf ⟨he.1, he.2.1, fun j w hj => ?_⟩
  have := leA_at av 0 j w (gsb_at hls j w hj)
  exact he.2.2 (j, w) (by simpa using this)
theorem ok_ofH {G : gC} {l : Launch} {fr mc ms : Nat} {y : MethodName} {cc : ByteArray} {nL : Nat} {rt : Option FieldType} {hh : List (Nat × Nat × Nat × Nat)} {av : List Value} {M : Mem} {O : Nat ⊕ Option Value} {M9 : Mem} {ls : List (Option Value)} (hl : l.stackTraces = false) (hy : plainName y.cls = true) (hlen : (lg_sl av).length ≤ nL) (hls : gsb ls (leA av))
    (body : ∀ X : gX, X.2.1 = l → Cx G X cc nL y.cls fr mc ms rt (tableOf hh) → Fnl G X mc ms O M9 → Go G X nL 0 0 0 ls [] M) : Ok G l fr mc ms y (.codeWith y cc nL rt hh) av M O M9 := by
  refine vx_ofWH (cc := cc) (maxL := nL) (ret := rt) (hh := hh) hy rfl ?_
  intro p e s m args below meth c s₁ B hml hPc
  obtain ⟨rfl, hP, hK⟩ := hPc
  have hts : ∀ w ∈ (Cond.codeWith y cc nL rt hh :: GT), w.before av.toArray s = true := atoms_spec (ws := Cond.codeWith y cc nL rt hh :: GT) B.pre
  have ht := vx_table (x := y) B (hts _ List.mem_cons_self)
  have h := body (p, l, e, rmF fr mc ms, s, m, av.toArray, below, meth, c, vx_MQ below (gQ G O M9) (gXc G O M9) av.toArray s mc ms (gA G)) rfl
    ⟨B.exec, B.bytes, hml, findClass_of_methodNamed B.named, fun w hw => hts w (List.mem_cons_of_mem _ hw), hK, B.notSynchronized, hl, ⟨Nat.le_refl _, Nat.le_refl _, Nat.le_refl _, Nat.le_refl _⟩, B.returns, ht⟩ rfl
  have he := lv_entry av (n := nL) hlen
  rw [lg_entry_eq]
  refine h s.heap [] _ hP va_S.rf ⟨he.1, he.2.1, fun j w hj => ?_⟩
  have := leA_at av 0 j w (gsb_at hls j w hj)
  exact he.2.2 (j, w) (by simpa using this)
