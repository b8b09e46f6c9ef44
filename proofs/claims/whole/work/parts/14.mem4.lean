/-! ROWS OF REFERENCES, COPIES, THE SCRIPT, Object's constructor (printed by wip/whole/emitmem4.py) -/
theorem sameS_cpI (h : MH) (s n p t m q len : Nat) : sameS h (cpI h s n p t m q len) := rfl
theorem sameS_cpJ (h : MH) (s n p t m q len : Nat) : sameS h (cpJ h s n p t m q len) := rfl
theorem hI_cpI (h : MH) (s n p t m q len a b c : Nat) : hI (cpI h s n p t m q len) a b c = if a = t ∧ b = m ∧ q ≤ c ∧ c < q + len then hI h s n (p + (c - q)) else hI h a b c := rfl
theorem hJ_cpJ (h : MH) (s n p t m q len a b c : Nat) : hJ (cpJ h s n p t m q len) a b c = if a = t ∧ b = m ∧ q ≤ c ∧ c < q + len then hJ h s n (p + (c - q)) else hJ h a b c := rfl
theorem cel_cpI {dA : Nat → ClassId} {ad : Nat → Nat → Nat} {h : MH} {s n p t m q len u v : Nat} (ht : 1000000 ≤ t) (hw : Wf h) (hv : v < hC h u) (hne : ¬ (u = t ∧ v = m)) : cel dA ad (cpI h s n p t m q len) u v = cel dA ad h u v := by
  refine cel_keep (sameS_cpI ..) (fun _ => ?_) rfl rfl (fun k h1 h2 h3 => ?_)
  · funext j
    rw [hI_cpI, if_neg (fun z => hne ⟨z.1, z.2.1⟩)]
  · rw [hI_cpI, if_neg]
    intro z
    rcases hw.2.2.2 u (by omega) with ⟨ci, g1, g2⟩ | ⟨g1, g2⟩
    · have e : u - 900000 = ci := by omega
      rw [e] at h2 h3 z
      have := (fk_table ci g1 k h2).1 h3
      have := (clN_lt ci g1).1
      omega
    · omega
theorem cel_cpJ {dA : Nat → ClassId} {ad : Nat → Nat → Nat} {h : MH} {s n p t m q len u v : Nat} (hne : ¬ (u = t ∧ v = m)) : cel dA ad (cpJ h s n p t m q len) u v = cel dA ad h u v := by
  refine cel_keep (sameS_cpJ ..) (fun _ => rfl) ?_ rfl (fun k h1 h2 h3 => rfl)
  funext j
  rw [hJ_cpJ, if_neg (fun z => hne ⟨z.1, z.2.1⟩)]

theorem cp_words : Cond.native arraycopyName ∈ lwG ∧ Cond.static arraycopyName ∈ lwG ∧ Cond.initialized "java/lang/System" ∈ lwG := ⟨lwG_of 1232 (by decide +kernel) (by decide +kernel), lwG_of 1231 (by decide +kernel) (by decide +kernel), lwG_of 140 (by decide +kernel) (by decide +kernel)⟩
theorem oi_words : Cond.instanceMethod Lib.objectInit ∈ lwG ∧ Cond.code Lib.objectInit ⟨#[0xb1]⟩ 1 none ∈ lwG := ⟨lwG_of 147 (by decide +kernel) (by decide +kernel), lwG_of 148 (by decide +kernel) (by decide +kernel)⟩
theorem s_cpyI {p : Program} {l : Launch} {e : Env} {R : Room} {s : State} {m : MethodId} {args : Array Value} {below : List Frame} {meth : Method} {c : Code} {Q : State → Prop} {cc : ByteArray} {nL : Nat} {own : String} {Ts : List Cond} {D : va_G} {dA : Nat → ClassId} {base : Nat} {ad0 : Nat → Nat → Nat} {h0 : MH} (F : Fix p s m args c cc nL own Ts D dA base ad0) {pc : Nat} {lo : List (Option MV)} {h : MH} {ix0 sx n tx u : Nat} {x y z : Int32} (hd : decode cc pc = .ok (.invokestatic ix0, 3)) (hl : Cond.methodLink own ix0 arraycopyName ∈ lwG) (hrs : isRow sx 0 = true) (hrt : isRow tx 0 = true) (hin : ¬ (x < 0 ∨ y < 0 ∨ z < 0 ∨ lenOf sx < ix x + ix z ∨ lenOf tx < ix y + ix z)) (hR : 1 ≤ R.frames ∧ 40 ≤ R.locals) (k2 : AtW p l e R s m args below meth c Q nL D dA base ad0 h0 (pc + 3) (lo) ([]) (cpI h sx n (ix x) tx u (ix y) (ix z))) : AtW p l e R s m args below meth c Q nL D dA base ad0 h0 (pc) (lo) ([vI z, vI y, vR tx u, vI x, vR sx n]) (h) := by
  intro H locs cells slots ad ls S
  have hs := (isRow_tg hrs).1
  have ht := (isRow_tg hrt).1
  have hu : u < hC h tx := vR_live S.ok.2.2.1 (by omega)
  have hn : n < hC h sx := vR_live S.ok.2.2.2.2.1 (by omega)
  obtain ⟨ws, hP, hD, hws, hinj⟩ := S.1
  obtain ⟨q0, hq0⟩ := hws sx n hn
  obtain ⟨q1, hq1⟩ := hws tx u hu
  have hq1' := hq1
  rw [cel_row hrs (by decide)] at hq0
  rw [cel_row hrt (by decide)] at hq1
  have i1 : ¬ x < 0 := fun a => hin (Or.inl a)
  have i2 : ¬ y < 0 := fun a => hin (Or.inr (Or.inl a))
  have i3 : ¬ z < 0 := fun a => hin (Or.inr (Or.inr (Or.inl a)))
  have i4 : ¬ lenOf sx < ix x + ix z := fun a => hin (Or.inr (Or.inr (Or.inr (Or.inl a))))
  have i5 : ¬ lenOf tx < ix y + ix z := fun a => hin (Or.inr (Or.inr (Or.inr (Or.inr a))))
  refine va_copyi F.1 F.2.1 (by rw [F.2.2.1, S.2.2.2.1.1]) F.2.2.2.1 (F.2.2.2.2.1 _ (F.2.2.2.2.2.1 _ hl)) (F.2.2.2.2.1 _ (F.2.2.2.2.2.1 _ cp_words.1)) (F.2.2.2.2.1 _ (F.2.2.2.2.2.1 _ cp_words.2.1)) (F.2.2.2.2.1 _ (F.2.2.2.2.2.1 _ cp_words.2.2)) F.2.2.2.2.2.2.1 hP hD S.2.2.1 q0 q1 0 0 hq0 hq1 (ty := .int) rfl rfl rfl i1 i2 i3 (Nat.not_lt.mp i4) (Nat.not_lt.mp i5) (fun _ _ => rfl) hR.1 (Nat.le_trans (show 0 + (nativeFrameWords "java/lang/System" "arraycopy" 5 + 11) ≤ 40 by decide) hR.2) hd (fun H1 locs1 hP1 hD1 hS1 => ?_)
  refine k2 H1 locs1 cells slots ad ls ⟨Sim.set (sameS_cpI ..) hws hinj hD hu hq1' ?_ (fun t m hm hne => cel_cpI ht S.2.1 hm hne) hP1 hD1, S.2.1.same (sameS_cpI ..) rfl, hS1, S.2.2.2.1, trivial, fun i v hv => (sameS_cpI ..).vk (S.2.2.2.2.2.1 i v hv), S.2.2.2.2.2.2⟩
  rw [cel_row hrt (by decide)]
  have eup : va_cpy (hI h sx n) (hI h tx u) (ix x) (ix y) (ix z) = hI (cpI h sx n (ix x) tx u (ix y) (ix z)) tx u := by
    funext j
    rw [hI_cpI]
    unfold va_cpy
    by_cases hj : ix y ≤ j ∧ j < ix y + ix z
    · rw [if_pos hj, if_pos ⟨rfl, rfl, hj⟩]
    · rw [if_neg hj, if_neg (fun a => hj a.2.2)]
  rw [← eup]
theorem s_cpyJ {p : Program} {l : Launch} {e : Env} {R : Room} {s : State} {m : MethodId} {args : Array Value} {below : List Frame} {meth : Method} {c : Code} {Q : State → Prop} {cc : ByteArray} {nL : Nat} {own : String} {Ts : List Cond} {D : va_G} {dA : Nat → ClassId} {base : Nat} {ad0 : Nat → Nat → Nat} {h0 : MH} (F : Fix p s m args c cc nL own Ts D dA base ad0) {pc : Nat} {lo : List (Option MV)} {h : MH} {ix0 sx n tx u : Nat} {x y z : Int32} (hd : decode cc pc = .ok (.invokestatic ix0, 3)) (hl : Cond.methodLink own ix0 arraycopyName ∈ lwG) (hrs : isRow sx 3 = true) (hrt : isRow tx 3 = true) (hin : ¬ (x < 0 ∨ y < 0 ∨ z < 0 ∨ lenOf sx < ix x + ix z ∨ lenOf tx < ix y + ix z)) (hR : 1 ≤ R.frames ∧ 40 ≤ R.locals) (k2 : AtW p l e R s m args below meth c Q nL D dA base ad0 h0 (pc + 3) (lo) ([]) (cpJ h sx n (ix x) tx u (ix y) (ix z))) : AtW p l e R s m args below meth c Q nL D dA base ad0 h0 (pc) (lo) ([vI z, vI y, vR tx u, vI x, vR sx n]) (h) := by
  intro H locs cells slots ad ls S
  have hs := (isRow_tg hrs).1
  have ht := (isRow_tg hrt).1
  have hu : u < hC h tx := vR_live S.ok.2.2.1 (by omega)
  have hn : n < hC h sx := vR_live S.ok.2.2.2.2.1 (by omega)
  obtain ⟨ws, hP, hD, hws, hinj⟩ := S.1
  obtain ⟨q0, hq0⟩ := hws sx n hn
  obtain ⟨q1, hq1⟩ := hws tx u hu
  have hq1' := hq1
  rw [cel_rowJ hrs ] at hq0
  rw [cel_rowJ hrt ] at hq1
  have i1 : ¬ x < 0 := fun a => hin (Or.inl a)
  have i2 : ¬ y < 0 := fun a => hin (Or.inr (Or.inl a))
  have i3 : ¬ z < 0 := fun a => hin (Or.inr (Or.inr (Or.inl a)))
  have i4 : ¬ lenOf sx < ix x + ix z := fun a => hin (Or.inr (Or.inr (Or.inr (Or.inl a))))
  have i5 : ¬ lenOf tx < ix y + ix z := fun a => hin (Or.inr (Or.inr (Or.inr (Or.inr a))))
  refine va_copyl F.1 F.2.1 (by rw [F.2.2.1, S.2.2.2.1.1]) F.2.2.2.1 (F.2.2.2.2.1 _ (F.2.2.2.2.2.1 _ hl)) (F.2.2.2.2.1 _ (F.2.2.2.2.2.1 _ cp_words.1)) (F.2.2.2.2.1 _ (F.2.2.2.2.2.1 _ cp_words.2.1)) (F.2.2.2.2.1 _ (F.2.2.2.2.2.1 _ cp_words.2.2)) F.2.2.2.2.2.2.1 hP hD S.2.2.1 q0 q1 3 3 hq0 hq1 (ty := .long) rfl rfl rfl i1 i2 i3 (Nat.not_lt.mp i4) (Nat.not_lt.mp i5) (fun _ _ => rfl) hR.1 (Nat.le_trans (show 0 + (nativeFrameWords "java/lang/System" "arraycopy" 5 + 11) ≤ 40 by decide) hR.2) hd (fun H1 locs1 hP1 hD1 hS1 => ?_)
  refine k2 H1 locs1 cells slots ad ls ⟨Sim.set (sameS_cpJ ..) hws hinj hD hu hq1' ?_ (fun t m hm hne => cel_cpJ hne) hP1 hD1, S.2.1.same (sameS_cpJ ..) rfl, hS1, S.2.2.2.1, trivial, fun i v hv => (sameS_cpJ ..).vk (S.2.2.2.2.2.1 i v hv), S.2.2.2.2.2.2⟩
  rw [cel_rowJ hrt ]
  have eup : va_cpy (hJ h sx n) (hJ h tx u) (ix x) (ix y) (ix z) = hJ (cpJ h sx n (ix x) tx u (ix y) (ix z)) tx u := by
    funext j
    rw [hJ_cpJ]
    unfold va_cpy
    by_cases hj : ix y ≤ j ∧ j < ix y + ix z
    · rw [if_pos hj, if_pos ⟨rfl, rfl, hj⟩]
    · rw [if_neg hj, if_neg (fun a => hj a.2.2)]
  rw [← eup]
theorem s_objInit {p : Program} {l : Launch} {e : Env} {R : Room} {s : State} {m : MethodId} {args : Array Value} {below : List Frame} {meth : Method} {c : Code} {Q : State → Prop} {cc : ByteArray} {nL : Nat} {own : String} {Ts : List Cond} {D : va_G} {dA : Nat → ClassId} {base : Nat} {ad0 : Nat → Nat → Nat} {h0 : MH} (F : Fix p s m args c cc nL own Ts D dA base ad0) {pc : Nat} {lo : List (Option MV)} {h : MH} {ix0 : Nat} {q : Nat × Nat} (hd : decode cc pc = .ok (.invokespecial ix0, 3)) (hl : Cond.methodLink own ix0 Lib.objectInit ∈ lwG) (hR : 1 ≤ R.frames ∧ 40 ≤ R.locals) (k2 : AtW p l e R s m args below meth c Q nL D dA base ad0 h0 (pc + 3) (lo) ([]) (h)) : AtW p l e R s m args below meth c Q nL D dA base ad0 h0 (pc) (lo) ([.inr (.inr (.inr (.inl q)))]) (h) := by
  intro H locs cells slots ad ls S
  exact W.objInit F.1 F.2.1 F.2.2.2.1 (F.2.2.2.2.1 _ (F.2.2.2.2.2.1 _ hl)) (F.2.2.2.2.1 _ (F.2.2.2.2.2.1 _ oi_words.1)) (F.2.2.2.2.1 _ (F.2.2.2.2.2.1 _ oi_words.2)) rfl (by show ls.size = _; rw [F.2.2.1, S.2.2.2.1.1]) (rest := []) rfl hd hR.1 (Nat.le_trans (show 2 * 0 + 0 + 12 ≤ 40 by decide) hR.2) (k2 H locs cells slots ad ls (S.stk trivial))
theorem s_sld {p : Program} {l : Launch} {e : Env} {R : Room} {s : State} {m : MethodId} {args : Array Value} {below : List Frame} {meth : Method} {c : Code} {Q : State → Prop} {cc : ByteArray} {nL : Nat} {own : String} {Ts : List Cond} {D : va_G} {dA : Nat → ClassId} {base : Nat} {ad0 : Nat → Nat → Nat} {h0 : MH} (F : Fix p s m args c cc nL own Ts D dA base ad0) {pc : Nat} {lo : List (Option MV)} {r : List MV} {h : MH} {i : Int32} {n : Nat} {b L : Nat} {scr : Nat → Int32} (hX : va_X b L scr s s.heap) (hbl : b < base) (hb : ∀ n, ad0 99 n = b) (hd : decode cc pc = .ok (.iaload, 1)) (hi : ¬ oob i L) (k2 : AtW p l e R s m args below meth c Q nL D dA base ad0 h0 (pc + 1) (lo) (vI (scr (ix i)) :: r) (h)) : AtW p l e R s m args below meth c Q nL D dA base ad0 h0 (pc) (lo) (vI i :: vR 99 n :: r) (h) := by
  intro H locs cells slots ad ls S
  have e1 : ad 99 n = b := (S.2.2.2.2.2.2.2.1 99 n (Or.inr (by decide))).trans (hb n)
  have k3 := k2 H locs cells slots ad ls (S.stk ⟨trivial, S.ok.2.2⟩)
  show W p l e R s m args below meth c H locs cells slots Q (F0 m pc ls (.int i :: .ref (ad 99 n) :: r.map (rv ad)))
  rw [e1]
  exact va_sld F.1 F.2.1 hX (Nat.lt_of_lt_of_le hbl F.2.2.2.2.2.2.2.1) (Nat.not_le.mpr hbl) S.2.2.1 hi hd k3
theorem s_slen {p : Program} {l : Launch} {e : Env} {R : Room} {s : State} {m : MethodId} {args : Array Value} {below : List Frame} {meth : Method} {c : Code} {Q : State → Prop} {cc : ByteArray} {nL : Nat} {own : String} {Ts : List Cond} {D : va_G} {dA : Nat → ClassId} {base : Nat} {ad0 : Nat → Nat → Nat} {h0 : MH} (F : Fix p s m args c cc nL own Ts D dA base ad0) {pc : Nat} {lo : List (Option MV)} {r : List MV} {h : MH} {n : Nat} {b L : Nat} {scr : Nat → Int32} (hX : va_X b L scr s s.heap) (hbl : b < base) (hb : ∀ n, ad0 99 n = b) (hd : decode cc pc = .ok (.arraylength, 1)) (k2 : AtW p l e R s m args below meth c Q nL D dA base ad0 h0 (pc + 1) (lo) (vI (Int32.ofNat L) :: r) (h)) : AtW p l e R s m args below meth c Q nL D dA base ad0 h0 (pc) (lo) (vR 99 n :: r) (h) := by
  intro H locs cells slots ad ls S
  have e1 : ad 99 n = b := (S.2.2.2.2.2.2.2.1 99 n (Or.inr (by decide))).trans (hb n)
  have k3 := k2 H locs cells slots ad ls (S.stk ⟨trivial, S.ok.2⟩)
  show W p l e R s m args below meth c H locs cells slots Q (F0 m pc ls (.ref (ad 99 n) :: r.map (rv ad)))
  rw [e1]
  exact va_slen F.1 F.2.1 hX (Nat.lt_of_lt_of_le hbl F.2.2.2.2.2.2.2.1) (Nat.not_le.mpr hbl) S.2.2.1 hd k3
theorem s_newR {p : Program} {l : Launch} {e : Env} {R : Room} {s : State} {m : MethodId} {args : Array Value} {below : List Frame} {meth : Method} {c : Code} {Q : State → Prop} {cc : ByteArray} {nL : Nat} {own : String} {Ts : List Cond} {D : va_G} {dA : Nat → ClassId} {base : Nat} {ad0 : Nat → Nat → Nat} {h0 : MH} (F : Fix p s m args c cc nL own Ts D dA base ad0) {pc : Nat} {lo : List (Option MV)} {r : List MV} {h : MH} {sx t ix0 : Nat} {C : String} {x : Int32} (hd : decode cc pc = .ok (.anewarray ix0, 3)) (hl : Cond.classLink own ix0 C ∈ lwG) (hr : isRow sx t = true) (ht : (t = 4 ∧ C = RX5) ∨ (t = 5 ∧ C = RX9)) (hx : x = Int32.ofNat (lenOf sx)) (hroom : hc h + 1 ≤ hc h0 + R.cells ∧ hs h + lenOf sx ≤ hs h0 + R.slots) (k2 : AtW p l e R s m args below meth c Q nL D dA base ad0 h0 (pc + 3) (lo) (vR sx (hC h sx) :: r) (newA h sx (lenOf sx))) : AtW p l e R s m args below meth c Q nL D dA base ad0 h0 (pc) (lo) (vI x :: r) (h) := by
  intro H locs cells slots ad ls S
  have hs := (isRow_tg hr).1
  have hl5 : lenOf sx < 100000 := Nat.mod_lt _ (by decide)
  obtain ⟨ws, hP, hD1, hws, hinj⟩ := S.1
  have cnt := S.2.2.2.2.2.2.1
  subst hx
  have hx1 : ¬ Int32.ofNat (lenOf sx) < 0 := nI_pos (by omega)
  have hx2 : (Int32.ofNat (lenOf sx)).toNatClampNeg = lenOf sx := nI_clamp (by omega)
  have hao : va_AO C s := by
    rcases ht with ⟨-, rfl⟩ | ⟨-, rfl⟩
    · exact F.2.2.2.2.2.2.2.2.2.1
    · exact F.2.2.2.2.2.2.2.2.2.2.1
  refine va_newq F.1 F.2.1 F.2.2.2.1 (F.2.2.2.2.1 _ (F.2.2.2.2.2.1 _ hl)) hao F.2.2.2.2.2.2.1 hP hD1 S.2.2.1 (fun q hq => Nat.le_trans F.2.2.2.2.2.2.2.1 hq) hx1 hx2 (by omega) (by omega) (by omega) hd (fun qa cA H1 hK1 hP1 hD2 hS1 => ?_)
  have ecA : cA = dA t := by
    rcases ht with ⟨rfl, rfl⟩ | ⟨rfl, rfl⟩
    · exact K_class hK1 (t := 4) rfl
    · exact K_class hK1 (t := 5) rfl
  subst ecA
  have hw' := Wf_newA (N := lenOf sx) hs (by rw [(isRow_tg hr).2]; omega) S.2.1
  have hsim : Sim D dA (adP ad sx (hC h sx) qa) (newA h sx (lenOf sx)) H1 (fun q => base ≤ q) := by
    refine Sim.push (by omega) (hC_newA h _ _) hws hinj ?_ (fun t m hm => by rw [cel_newA hs S.2.1 hm, cel_ad S.2.1 (fun t m hm => adP_old (by omega) t m (Or.inl hm)) hm]) hP1 hD2
    rw [cel_rowR hr (by omega)]
    have e0 : (fun j => (hR (newA h sx (lenOf sx)) sx (hC h sx) j).map (adP ad sx (hC h sx) qa (tgtT t))) = fun _ => none := by
      funext j
      rw [hR_newA, if_pos ⟨rfl, rfl⟩]
      rfl
    rw [e0]
  have e1 : Value.ref qa :: r.map (rv ad) = (vR sx (hC h sx) :: r).map (rv (adP ad sx (hC h sx) qa)) := by
    rw [List.map_cons, oks_map (adP_old (by omega)) S.ok.2]
    show _ = Value.ref (adP ad sx (hC h sx) qa sx (hC h sx)) :: _
    unfold adP
    rw [if_pos ⟨rfl, rfl⟩]
  rw [e1]
  exact k2 H1 locs (cells + 1) (slots + lenOf sx) _ ls (S.push (by omega) (hC_newA h _ _) rfl rfl rfl hw' hsim hS1 ⟨Or.inr ⟨by show hC h sx < hC (newA h sx (lenOf sx)) sx; rw [hC_newA, if_pos rfl]; omega, fun z => absurd (show sx < 1000000 from z) (by omega)⟩, oks_mono (newA_mono h _ _) (fun _ => Nat.le_refl _) S.ok.2⟩)
