/-! String.charAt of the one literal, walked -/
def yLat : MethodName := ⟨"java/lang/String", "isLatin1", "()Z"⟩
def yIdx : MethodName := ⟨"java/lang/String", "checkIndex", "(II)V"⟩
def yL1 : MethodName := ⟨"java/lang/StringLatin1", "charAt", "([BI)C"⟩
def yPre : MethodName := ⟨"jdk/internal/util/Preconditions", "checkIndex", "(IILjava/util/function/BiFunction;)I"⟩
abbrev qLat : ME := (yLat, prog_17_method_154_code, 1, some .boolean, 1, [], [])
abbrev qIdx : ME := (yIdx, prog_17_method_155_code, 2, none, 0, [], [])
abbrev qL1 : ME := (yL1, prog_18_method_2_code, 2, some .char, 0, [], [])
abbrev qPre : ME := (yPre, prog_22_method_11_code, 3, some .int, 0, [], [])
abbrev qCh : ME := (yCh, prog_17_method_56_code, 2, some .char, 1, [], [])
theorem iStr : Cond.initialized "java/lang/String" ∈ lwG := lwG_of 135 (by decide +kernel) (by decide +kernel)
theorem mkLat : meOk qLat 0 := ⟨lwG_of 740 (by decide +kernel) (by decide +kernel), iStr, by decide +kernel, by decide +kernel, by decide +kernel, by decide⟩
theorem mkIdx : meOk qIdx 2 := ⟨lwG_of 748 (by decide +kernel) (by decide +kernel), iStr, by decide +kernel, by decide +kernel, by decide +kernel, by decide⟩
theorem mkL1 : meOk qL1 2 := ⟨lwG_of 745 (by decide +kernel) (by decide +kernel), lwG_of 136 (by decide +kernel) (by decide +kernel), by decide +kernel, by decide +kernel, by decide +kernel, by decide⟩
theorem mkPre : meOk qPre 3 := ⟨lwG_of 753 (by decide +kernel) (by decide +kernel), lwG_of 137 (by decide +kernel) (by decide +kernel), by decide +kernel, by decide +kernel, by decide +kernel, by decide⟩
theorem mkCh : meOk qCh 1 := ⟨lwG_of 736 (by decide +kernel) (by decide +kernel), iStr, by decide +kernel, by decide +kernel, by decide +kernel, by decide⟩
theorem kCompact : Cond.fieldLink "java/lang/String" 38 "java/lang/String" "COMPACT_STRINGS" "Z" ∈ lwG := lwG_of 741 (by decide +kernel) (by decide +kernel)
theorem kCoder : Cond.fieldLink "java/lang/String" 15 "java/lang/String" "coder" "B" ∈ lwG := lwG_of 2361 (by decide +kernel) (by decide +kernel)
theorem kValue : Cond.fieldLink "java/lang/String" 9 "java/lang/String" "value" "[B" ∈ lwG := lwG_of 2362 (by decide +kernel) (by decide +kernel)
theorem kForm : Cond.fieldLink "java/lang/String" 1053 "jdk/internal/util/Preconditions" "SIOOBE_FORMATTER" "Ljava/util/function/BiFunction;" ∈ lwG := lwG_of 749 (by decide +kernel) (by decide +kernel)
theorem lLat : Cond.methodLink "java/lang/String" 492 yLat ∈ lwG ∧ Cond.instanceMethod yLat ∈ lwG ∧ Cond.selects "java/lang/String" yLat yLat ∈ lwG := ⟨lwG_of 737 (by decide +kernel) (by decide +kernel), lwG_of 738 (by decide +kernel) (by decide +kernel), lwG_of 739 (by decide +kernel) (by decide +kernel)⟩
theorem lL1 : Cond.methodLink "java/lang/String" 495 yL1 ∈ lwG ∧ Cond.static yL1 ∈ lwG := ⟨lwG_of 743 (by decide +kernel) (by decide +kernel), lwG_of 744 (by decide +kernel) (by decide +kernel)⟩
theorem lIdx : Cond.methodLink "java/lang/StringLatin1" 9 yIdx ∈ lwG ∧ Cond.static yIdx ∈ lwG := ⟨lwG_of 746 (by decide +kernel) (by decide +kernel), lwG_of 747 (by decide +kernel) (by decide +kernel)⟩
theorem lPre : Cond.methodLink "java/lang/String" 1059 yPre ∈ lwG ∧ Cond.static yPre ∈ lwG := ⟨lwG_of 751 (by decide +kernel) (by decide +kernel), lwG_of 752 (by decide +kernel) (by decide +kernel)⟩
theorem lCh : Cond.instanceMethod yCh ∈ lwG ∧ Cond.selects "java/lang/String" yCh yCh ∈ lwG := ⟨lwG_of 734 (by decide +kernel) (by decide +kernel), lwG_of 735 (by decide +kernel) (by decide +kernel)⟩
theorem wb_c : ∀ k, k < 184 → (((wordsB.getD k 0) &&& 255).toUInt32 % 65536).toInt32 = wordsB.getD k 0 ∧ (wordsB.getD k 0).toUInt32.toUInt16.toUInt32.toInt32 = wordsB.getD k 0 := by decide +kernel
/-- what is known of the literal -/
def JE (base strA tv : Nat) (U : State) : Prop := base ≤ U.heap.size ∧ Ex base strA U ∧ vk_S 1 [184] [wordsB] (fun _ => strA) (fun _ => tv) (fun q => base ≤ q) U U.heap
def JP (base strA tv : Nat) (av : List Value) : Array Value → State → Prop := va_Pc av (JE base strA tv)
def JQ (v : Option Value) : Array Value → State → Outcome → State → Prop := fun _ st o t => o = .returned v ∧ t.heap = st.heap
def roomJ (d : Nat) : Room := { frames := d, cells := 0, slots := 0, locals := 80 * d }
theorem JE.warm {base strA tv : Nat} {s U : State} (hW : s.WarmedH U.vm) (hz : s.heap.size ≤ U.heap.size) (hk : ∀ q : Nat, q < s.heap.size → ¬ base ≤ q → U.heap[q]? = s.heap[q]?) (h : JE base strA tv s) : JE base strA tv U := by
  obtain ⟨h1, h2, h3⟩ := h
  exact ⟨Nat.le_trans h1 hz, Ex.warm hW h1 hk h2, vk_S.moved hW.alike (h3.kept hk)⟩
theorem JP_blind {base strA tv : Nat} {av : List Value} : FrameBlind (JP base strA tv av) := by
  intro a U g mk q
  obtain ⟨q0, q1, q2, q3⟩ := q
  exact ⟨q0, q1, Ex.same (u := U) rfl rfl q2, vk_S.moved (u := U) (U := U.calling g mk a) (Vm.Alike.refl U.vm) q3⟩
section Walk
variable {p : Program} {l : Launch} {e : Env} {R : Room} {s : State} {m : MethodId} {args : Array Value} {below : List Frame} {meth : Method} {c : Code} {Q : State → Prop} {base strA tv : Nat}
/-- the machine at pc, nothing written -/
def JW (p : Program) (l : Launch) (e : Env) (R : Room) (s : State) (m : MethodId) (args : Array Value) (below : List Frame) (meth : Method) (c : Code) (Q : State → Prop) (base pc : Nat) (ls : Array Slot) (st : List Value) : Prop := ∀ locs : List Loc, (∀ q ∈ locs, base ≤ q.base) → W p l e R s m args below meth c s.heap locs 0 0 Q (F0 m pc ls st)
theorem j_goes {pc : Nat} {ls : Array Slot} {st rest : List Value} {v : Option Value} {av : Array Value} (hr : ∀ locs : List Loc, va_Run p l e R s m args below meth c s.heap locs 0 0 0 0 (F0 m pc ls st) rest (JQ v av) (fun q => base ≤ q)) (k : JW p l e R s m args below meth c Q base (pc + 3) ls (v.toList ++ rest)) : JW p l e R s m args below meth c Q base pc ls st := by
  intro locs hl T hT X
  obtain ⟨v2, st₀, t, T', L, g0, X', hL, e1, e2, ⟨ho, hh⟩, stp⟩ := hr locs T hT X
  have ev : v2 = v := Outcome.returned.inj ho
  subst ev
  obtain ⟨t2, a1, b1⟩ := k (locs ++ L) (fun q hq => by
    rcases List.mem_append.mp hq with z | z
    · exact hl q z
    · exact hL q z) T' (by rw [e1, hh, g0]) X'
  exact ⟨t2, stp t2 a1, b1⟩
/-- a static call -/
theorem j_callS {own : String} {cc : ByteArray} {nL d : Nat} {q : ME} {As rest : List Value} {pc ix0 : Nat} {ls : Array Slot} {v : Option Value} (hx : p.tables.exec = Jvm.exec) (hb : c.code = cc) (hml : c.maxLocals = nL) (hown : s.vm.findClass own = some m.cls) (hw : ∀ w ∈ lwG, w.before args s = true) (hE : JE base strA tv s) (hM : Met l q.1 (wT q) (roomJ d) (JP base strA tv As) (JQ v) 0 0 (fun q => base ≤ q)) (hR : d + 1 ≤ R.frames ∧ 80 * d + 60 ≤ R.locals) (hlink : Cond.methodLink own ix0 q.1 ∈ lwG) (hst : Cond.static q.1 ∈ lwG) (hme : meOk q As.length) (hsz : ls.size = nL) (hcat : (rest.map fun v => v.category).sum ≤ 8) (hd : decode cc pc = .ok (.invokestatic ix0, 3)) (k : JW p l e R s m args below meth c Q base (pc + 3) ls (v.toList ++ rest)) : JW p l e R s m args below meth c Q base pc ls (As.reverse ++ rest) := by
  refine j_goes (av := As.toArray) (rest := rest) (fun locs => ?_) k
  exact va_runS (n := As.length) (As := As) (rest := rest) (g := F0 m pc ls (As.reverse ++ rest)) (Ts := lwG) ⟨hx, hb, hml, hown, hw⟩ hM ⟨callB_of (bytes := q.2.1) (maxL := q.2.2.1) (ret := q.2.2.2.1) As.length hw (goodIn_wT (fun _ h => h) hme.1) rfl rfl rfl (hw _ hme.2.1) (hw _ hlink) ⟨hme.2.2.1, hme.2.2.2.1, hme.2.2.2.2.1⟩ ⟨hR.1, by have := hme.2.2.2.2.2; show 8 + (q.2.2.1 + 11) + 80 * d ≤ R.locals; omega⟩, hw _ hst⟩ ⟨JP_blind, fun U hU hW => ⟨rfl, JE.warm hW (by rw [hU]; exact Nat.le_refl _) (fun a _ _ => by rw [hU]) hE⟩⟩ rfl rfl hsz rfl (lv_room hcat) hd ⟨Nat.zero_le _, Nat.zero_le _⟩
end Walk
section Chars
variable {l : Launch} {base strA tv : Nat}
theorem j_pre {i n : Int32} {v : Value} (hv : v = .null ∨ ∃ t, v = .ref t) (h0 : ¬ i < 0) (h1 : i < n) : Met l yPre (wT qPre) (roomJ 0) (JP base strA tv [.int i, .int n, v]) (JQ (some (.int i))) 0 0 (fun q => base ≤ q) := by
  refine Met.ofW (cc := qPre.2.1) (maxL := 3) (ret := some .int) (by decide) rfl ?_
  intro p e s m args below meth c s₁ B hml hP
  obtain ⟨rfl, -⟩ := hP
  rw [lg_entry_eq]
  obtain ⟨ls, hls⟩ : ∃ ls : Array Slot, ls = ((lg_sl [.int i, .int n, v] ++ List.replicate (3 - (lg_sl [.int i, .int n, v]).length) Slot.unset).toArray) := ⟨_, rfl⟩
  have g0 : ls[0]? = some (.val (.int i)) := by rw [hls]; rcases hv with rfl | ⟨t, rfl⟩ <;> rfl
  have g1 : ls[1]? = some (.val (.int n)) := by rw [hls]; rcases hv with rfl | ⟨t, rfl⟩ <;> rfl
  rw [← hls]
  refine lv_iload_n (k := 0) (i := 0) B.exec B.bytes (by decide +kernel) rfl g0 ?_
  refine lv_if_lt (off := 8) (tgt := 9) B.exec B.bytes (by decide +kernel) rfl (fun z => absurd z h0) (fun _ => ?_)
  refine lv_iload_n (k := 0) (i := 0) B.exec B.bytes (by decide +kernel) rfl g0 ?_
  refine lv_iload_n (k := 1) (i := 1) B.exec B.bytes (by decide +kernel) rfl g1 ?_
  refine lv_icmp_lt (off := 10) (tgt := 16) B.exec B.bytes (by decide +kernel) rfl (fun _ => ?_) (fun z => absurd h1 z)
  refine lv_iload_n (k := 0) (i := 0) B.exec B.bytes (by decide +kernel) rfl g0 ?_
  exact W.iret B.exec B.bytes B.returns (fun t ht _ => ⟨rfl, ht⟩) (fun _ h => nomatch h) (by decide +kernel) B.notSynchronized
theorem j_idx {i n : Int32} (h0 : ¬ i < 0) (h1 : i < n) : Met l yIdx (wT qIdx) (roomJ 1) (JP base strA tv [.int i, .int n]) (JQ none) 0 0 (fun q => base ≤ q) := by
  refine Met.ofW (cc := qIdx.2.1) (maxL := 2) (ret := none) (by decide) rfl ?_
  intro p e s m args below meth c s₁ B hml hP
  obtain ⟨rfl, hE⟩ := hP
  have hown := findClass_of_methodNamed B.named
  have hw : ∀ w ∈ lwG, w.before ([.int i, .int n] : List Value).toArray s = true := fun w hw => atoms_spec (ws := wT qIdx) B.pre w (List.mem_cons_of_mem _ hw)
  rw [lg_entry_eq]
  obtain ⟨ls, hls⟩ : ∃ ls : Array Slot, ls = ((lg_sl [.int i, .int n] ++ List.replicate (2 - (lg_sl [.int i, .int n]).length) Slot.unset).toArray) := ⟨_, rfl⟩
  have g0 : ls[0]? = some (.val (.int i)) := by rw [hls]; rfl
  have g1 : ls[1]? = some (.val (.int n)) := by rw [hls]; rfl
  have gs : ls.size = 2 := by rw [hls]; rfl
  rw [← hls]
  refine lv_iload_n (k := 0) (i := 0) B.exec B.bytes (by decide +kernel) rfl g0 ?_
  refine lv_iload_n (k := 1) (i := 1) B.exec B.bytes (by decide +kernel) rfl g1 ?_
  have key : ∀ v : Value, (v = .null ∨ ∃ t, v = .ref t) → JW p l e (headSpec (wT qIdx) (roomJ 1)).room s m ([.int i, .int n] : List Value).toArray below meth c (MQ below (JQ none) ([.int i, .int n] : List Value).toArray s 0 0 (fun q => base ≤ q)) base 5 ls [v, .int n, .int i] := fun v hv =>
    j_callS (As := [.int i, .int n, v]) (rest := []) (d := 0) (q := qPre) (v := some (.int i)) (nL := 2) B.exec B.bytes hml hown hw hE (j_pre hv h0 h1) ⟨Nat.le_refl _, by decide⟩ lPre.1 lPre.2 mkPre gs (by decide) (by decide +kernel) (fun locs hl => by
      refine lv_pop B.exec B.bytes (by decide +kernel) rfl ?_
      exact W.vret B.exec B.bytes B.returns (fun t ht _ => ⟨rfl, ht⟩) hl (by decide +kernel) B.notSynchronized)
  rcases hE.2.1.2.2.2.2.2.2 with z | ⟨t, z⟩
  · exact va_gets B.exec B.bytes z va_S.rf hown (hw _ kForm) (fun _ h => h) (by decide +kernel) (key .null (Or.inl rfl) [] (fun _ h => nomatch h))
  · exact va_gets B.exec B.bytes z va_S.rf hown (hw _ kForm) (fun _ h => h) (by decide +kernel) (key (.ref t) (Or.inr ⟨t, rfl⟩) [] (fun _ h => nomatch h))
theorem j_l1 {k : Nat} (hk : k < 184) : Met l yL1 (wT qL1) (roomJ 2) (JP base strA tv [.ref tv, .int (nI k)]) (JQ (some (.int (wordsB.getD k 0)))) 0 0 (fun q => base ≤ q) := by
  refine Met.ofW (cc := qL1.2.1) (maxL := 2) (ret := some .char) (by decide) rfl ?_
  intro p e s m args below meth c s₁ B hml hP
  obtain ⟨rfl, hE⟩ := hP
  have hown := findClass_of_methodNamed B.named
  have hw : ∀ w ∈ lwG, w.before ([.ref tv, .int (nI k)] : List Value).toArray s = true := fun w hw => atoms_spec (ws := wT qL1) B.pre w (List.mem_cons_of_mem _ hw)
  rw [lg_entry_eq]
  obtain ⟨ls, hls⟩ : ∃ ls : Array Slot, ls = ((lg_sl [.ref tv, .int (nI k)] ++ List.replicate (2 - (lg_sl [.ref tv, .int (nI k)]).length) Slot.unset).toArray) := ⟨_, rfl⟩
  have g0 : ls[0]? = some (.val (.ref tv)) := by rw [hls]; rfl
  have g1 : ls[1]? = some (.val (.int (nI k))) := by rw [hls]; rfl
  have gs : ls.size = 2 := by rw [hls]; rfl
  have hT := (hE.2.2.1 0 (by decide)).2.2.2
  rw [← hls]
  refine lv_iload_n (k := 1) (i := 1) B.exec B.bytes (by decide +kernel) rfl g1 ?_
  refine lv_aload_n (k := 0) (i := 0) B.exec B.bytes (by decide +kernel) rfl g0 ?_
  refine va_tlen (v := nI 184) B.exec B.bytes hT va_S.rf rfl (by decide +kernel) ?_
  refine j_callS (As := [.int (nI k), .int (nI 184)]) (rest := []) (d := 1) (q := qIdx) (v := none) (nL := 2) (Q := MQ below (JQ (some (.int (wordsB.getD k 0)))) ([.ref tv, .int (nI k)] : List Value).toArray s 0 0 (fun q => base ≤ q)) B.exec B.bytes hml hown hw hE (j_idx (nI_pos (by omega)) (nI_lt hk (by decide))) ⟨Nat.le_refl _, by decide⟩ lIdx.1 lIdx.2 mkIdx gs (by decide) (by decide +kernel) (fun locs hl => ?_) [] (fun _ h => nomatch h)
  have hS : va_S (fun q => base ≤ q) s.heap s.heap locs := ⟨Nat.le_refl _, fun _ _ _ => rfl, hl⟩
  refine lv_aload_n (k := 0) (i := 0) B.exec B.bytes (by decide +kernel) rfl g0 ?_
  refine lv_iload_n (k := 1) (i := 1) B.exec B.bytes (by decide +kernel) rfl g1 ?_
  refine va_tb (v := .int (wordsB.getD k 0)) B.exec B.bytes hT hS (vp_in_nI hk (by decide)) (by rw [nI_clamp (by omega)]; rfl) (by decide +kernel) ?_
  refine lv_sipush (v := 255) B.exec B.bytes (n := 255) (by decide +kernel) (by decide +kernel) ?_
  refine lv_iand B.exec B.bytes (by decide +kernel) ?_
  refine lv_i2c B.exec B.bytes (by decide +kernel) (wb_c k hk).1 ?_
  exact W.zret (ty := .char) B.exec B.bytes B.returns (congrArg Value.int (wb_c k hk).2) (fun t ht _ => ⟨rfl, ht⟩) hl (by decide +kernel) B.notSynchronized
theorem j_lat : Met l yLat (wT qLat) (roomJ 0) (JP base strA tv [.ref strA]) (JQ (some (.int 1))) 0 0 (fun q => base ≤ q) := by
  refine Met.ofW (cc := qLat.2.1) (maxL := 1) (ret := some .boolean) (by decide) rfl ?_
  intro p e s m args below meth c s₁ B hml hP
  obtain ⟨rfl, hE⟩ := hP
  have hown := findClass_of_methodNamed B.named
  have hw : ∀ w ∈ lwG, w.before ([.ref strA] : List Value).toArray s = true := fun w hw => atoms_spec (ws := wT qLat) B.pre w (List.mem_cons_of_mem _ hw)
  rw [lg_entry_eq]
  obtain ⟨ls, hls⟩ : ∃ ls : Array Slot, ls = ((lg_sl [.ref strA] ++ List.replicate (1 - (lg_sl [.ref strA]).length) Slot.unset).toArray) := ⟨_, rfl⟩
  have g0 : ls[0]? = some (.val (.ref strA)) := by rw [hls]; rfl
  rw [← hls]
  refine va_gets B.exec B.bytes hE.2.1.2.2.2.2.2.1 va_S.rf hown (hw _ kCompact) (fun _ h => h) (by decide +kernel) ?_
  refine lv_if_eq (off := 14) (tgt := 17) B.exec B.bytes (by decide +kernel) rfl (fun z => absurd z (by decide)) (fun _ => ?_)
  refine lv_aload_n (k := 0) (i := 0) B.exec B.bytes (by decide +kernel) rfl g0 ?_
  refine vk_getf B.exec B.bytes (hE.2.2.1 0 (by decide)).2.1 va_S.rf hown (hw _ kCoder) (fun _ h => h) (by decide +kernel) ?_
  refine lv_if_ne (off := 7) (tgt := 17) B.exec B.bytes (by decide +kernel) rfl (fun z => absurd z (by decide)) (fun _ => ?_)
  refine lv_iconst (v := 1) (n := 1) B.exec B.bytes (by decide +kernel) (by decide +kernel) ?_
  refine lv_goto (off := 4) (tgt := 18) B.exec B.bytes (by decide +kernel) rfl ?_
  exact W.zret (ty := .boolean) B.exec B.bytes B.returns rfl (fun t ht _ => ⟨rfl, ht⟩) (fun _ h => nomatch h) (by decide +kernel) B.notSynchronized
theorem j_ch {k : Nat} (hk : k < 184) : Met l yCh (wT qCh) (roomJ 3) (JP base strA tv [.ref strA, .int (nI k)]) (JQ (some (.int (wordsB.getD k 0)))) 0 0 (fun q => base ≤ q) := by
  refine Met.ofW (cc := qCh.2.1) (maxL := 2) (ret := some .char) (by decide) rfl ?_
  intro p e s m args below meth c s₁ B hml hP
  obtain ⟨rfl, hE⟩ := hP
  have hown := findClass_of_methodNamed B.named
  have hw : ∀ w ∈ lwG, w.before ([.ref strA, .int (nI k)] : List Value).toArray s = true := fun w hw => atoms_spec (ws := wT qCh) B.pre w (List.mem_cons_of_mem _ hw)
  rw [lg_entry_eq]
  obtain ⟨ls, hls⟩ : ∃ ls : Array Slot, ls = ((lg_sl [.ref strA, .int (nI k)] ++ List.replicate (2 - (lg_sl [.ref strA, .int (nI k)]).length) Slot.unset).toArray) := ⟨_, rfl⟩
  have g0 : ls[0]? = some (.val (.ref strA)) := by rw [hls]; rfl
  have g1 : ls[1]? = some (.val (.int (nI k))) := by rw [hls]; rfl
  have gs : ls.size = 2 := by rw [hls]; rfl
  rw [← hls]
  refine lv_aload_n (k := 0) (i := 0) B.exec B.bytes (by decide +kernel) rfl g0 ?_
  refine j_goes (v := some (.int 1)) (rest := []) (av := ([.ref strA] : List Value).toArray) (Q := MQ below (JQ (some (.int (wordsB.getD k 0)))) ([.ref strA, .int (nI k)] : List Value).toArray s 0 0 (fun q => base ≤ q)) (base := base) (fun locs => ?_) (fun locs hl => ?_) [] (fun _ h => nomatch h)
  · have hme := mkLat
    exact va_runV (n := 0) (C := "java/lang/String") (b := strA) (As := []) (rest := []) (g := F0 m 1 ls [.ref strA]) (Ts := lwG) ⟨B.exec, B.bytes, hml, hown, hw⟩ (j_lat (l := l) (base := base) (strA := strA) (tv := tv)) ⟨callB_of (bytes := qLat.2.1) (maxL := 1) (ret := some .boolean) 0 hw (goodIn_wT (q := qLat) (fun _ h => h) hme.1) rfl rfl rfl (hw _ hme.2.1) (hw _ lLat.1) ⟨hme.2.2.1, hme.2.2.2.1, hme.2.2.2.2.1⟩ ⟨by decide, by decide⟩, hw _ lLat.2.1, hw _ lLat.2.2⟩ ⟨JP_blind, vk_recv hE.2.2 (by decide : 0 < 1) (va_S.rf (A := fun q => base ≤ q)), fun U hU hW => ⟨rfl, JE.warm hW (by rw [hU]; exact Nat.le_refl _) (fun a _ _ => by rw [hU]) hE⟩⟩ rfl rfl gs rfl (lv_room (by decide)) (show decode qCh.2.1 1 = .ok (.invokevirtual 492, 3) from by decide +kernel) ⟨Nat.zero_le _, Nat.zero_le _⟩
  have hS : va_S (fun q => base ≤ q) s.heap s.heap locs := ⟨Nat.le_refl _, fun _ _ _ => rfl, hl⟩
  refine lv_if_eq (off := 12) (tgt := 16) B.exec B.bytes (by decide +kernel) rfl (fun z => absurd z (by decide)) (fun _ => ?_)
  refine lv_aload_n (k := 0) (i := 0) B.exec B.bytes (by decide +kernel) rfl g0 ?_
  refine vk_getf B.exec B.bytes (hE.2.2.1 0 (by decide)).2.2.1 hS hown (hw _ kValue) (fun _ h => h) (by decide +kernel) ?_
  refine lv_iload_n (k := 1) (i := 1) B.exec B.bytes (by decide +kernel) rfl g1 ?_
  refine j_callS (As := [.ref tv, .int (nI k)]) (rest := []) (d := 2) (q := qL1) (v := some (.int (wordsB.getD k 0))) (nL := 2) (Q := MQ below (JQ (some (.int (wordsB.getD k 0)))) ([.ref strA, .int (nI k)] : List Value).toArray s 0 0 (fun q => base ≤ q)) B.exec B.bytes hml hown hw hE (j_l1 hk) ⟨Nat.le_refl _, by decide⟩ lL1.1 lL1.2 mkL1 gs (by decide) (by decide +kernel) (fun locs hl => ?_) locs hl
  exact W.zret (ty := .char) B.exec B.bytes B.returns (congrArg Value.int (wb_c k hk).2) (fun t ht _ => ⟨rfl, ht⟩) hl (by decide +kernel) B.notSynchronized
end Chars
theorem ch_ok {l : Launch} {own : String} {ini law : Bool} {cc : ByteArray} {nL L : Nat} {scr : Nat → Int32} {d : Nat} : ChOk l own ini law cc nL L scr d := by
  intro pc idx lo i r h hd4 hdec hlink hoob hcat p e R s m args below meth c Q Ts D dA base ad0 h0 F hini hlaw hR hroom k H locs cells slots ad ls S
  obtain ⟨k0, hk, rfl⟩ := vp_in_of (x := i) (n := 184) hoob (by decide)
  have ek : ix (nI k0) = k0 := ix_nI (by omega)
  replace hroom : hc h ≤ hc h0 + R.cells ∧ hs h ≤ hs h0 + R.slots := hroom
  replace k : AtW p l e R s m args below meth c Q nL D dA base ad0 h0 (pc + 3) lo (vI (wordsB.getD (ix (nI k0)) 0) :: r) h := k
  rw [ek] at k
  refine call_core F (st := vI (nI k0) :: vR 98 0 :: r) (rs := r) (r := some (vI (wordsB.getD k0 0))) (h1 := h) (av := (Value.ref (ad0 98 0) :: [Value.int (nI k0)]).toArray) (fun z => z.2.2) (Mono.rf h) S.2.1 (fun v hv => by cases hv; trivial) (fun H locs cells slots ad ls S => ?_) k H locs cells slots ad ls S
  have e98 : ad 98 0 = ad0 98 0 := S.2.2.2.2.2.2.2.1 98 0 (Or.inr (by decide))
  have hw : ∀ w ∈ lwG, w.before args s = true := fun w hw => F.2.2.2.2.1 w (F.2.2.2.2.2.1 w hw)
  obtain ⟨tv, hV⟩ := F.2.2.2.2.2.2.2.2.2.2.2.2.1
  have hE : JE base (ad0 98 0) tv s := ⟨F.2.2.2.2.2.2.2.1, F.2.2.2.2.2.2.2.2, hV⟩
  have hme := mkCh
  have run := va_runV (p := p) (l := l) (e := e) (R := R) (s := s) (m := m) (args := args) (below := below) (meth := meth) (c := c) (H := H) (locs := locs) (cells := cells) (slots := slots) (n := 1) (C := "java/lang/String") (b := ad0 98 0) (As := [.int (nI k0)]) (rest := r.map (rv ad)) (g := F0 m pc ls (.int (nI k0) :: .ref (ad0 98 0) :: r.map (rv ad))) ⟨F.1, F.2.1, F.2.2.1, F.2.2.2.1, F.2.2.2.2.1⟩ (j_ch (l := l) (base := base) (strA := ad0 98 0) (tv := tv) hk) ⟨callB_of (R := R) (bytes := qCh.2.1) (maxL := 2) (ret := some .char) 1 F.2.2.2.2.1 (goodIn_wT (q := qCh) F.2.2.2.2.2.1 hme.1) rfl rfl rfl (hw _ hme.2.1) (hw _ hlink) ⟨hme.2.2.1, hme.2.2.2.1, hme.2.2.2.2.1⟩ ⟨by show 3 + 1 ≤ R.frames; omega, by show 8 + (2 + 11) + 80 * 3 ≤ R.locals; omega⟩, hw _ lCh.1, hw _ lCh.2⟩ ⟨JP_blind, vk_recv (adK := fun _ => ad0 98 0) (i := 0) hV (by decide) S.2.2.1, fun U hU hW => ⟨rfl, JE.warm hW (by rw [hU]; exact S.2.2.1.1) (fun q h1 h2 => by rw [hU]; exact S.2.2.1.2.1 q h1 h2) hE⟩⟩ rfl rfl (by show ls.size = nL; exact S.2.2.2.1.1) rfl (lv_room (by rw [cat_sum]; exact hcat)) hdec ⟨by have := S.2.2.2.2.2.2.1.1; omega, by have := S.2.2.2.2.2.2.1.2; omega⟩
  rw [Nat.sub_self, Nat.sub_self]
  intro T hT X
  have est : (vI (nI k0) :: vR 98 0 :: r).map (rv ad) = .int (nI k0) :: .ref (ad0 98 0) :: r.map (rv ad) := by rw [← e98]; rfl
  rw [est]
  obtain ⟨v2, st₀, t, T', L, g0, X', hL, e1, e2, ⟨ho, hh⟩, stp⟩ := run T hT X
  exact ⟨v2, st₀, t, T', L, g0, X', hL, e1, e2, ⟨⟨ad, fun _ _ _ => rfl, by rw [hh, g0]; exact S.1, ho⟩, by rw [hh]; exact Nat.le_refl _, fun q _ _ => by rw [hh]⟩, stp⟩
