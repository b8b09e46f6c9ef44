/-! LONGS, REFERENCES, FINAL FIELDS, NEW CELLS, COPIES (printed by wip/whole/emitmem2.py) -/
theorem Sim.setC {D : va_G} {dA : Nat → ClassId} {ad : Nat → Nat → Nat} {h h' : MH} {H' : Heap} {A : Nat → Prop} {ws : va_W} {k s n : Nat} {x : va_E} (q : hC h' = hC h)
    (hws : ∀ s n, n < hC h s → ∃ k : Nat, ws[k]? = some (ad s n, cel dA ad h s n)) (hinj : ∀ s n t m, n < hC h s → m < hC h t → ad s n = ad t m → s = t ∧ n = m)
    (hn : n < hC h s) (hk : ws[k]? = some (ad s n, cel dA ad h s n)) (hx : x = cel dA ad h' s n) (hne : ∀ t m, m < hC h t → ¬ (t = s ∧ m = n) → cel dA ad h' t m = cel dA ad h t m)
    (hP : va_P D clT (ws.set k (ad s n, x)) H') (hD : va_D A (ws.set k (ad s n, x))) : Sim D dA ad h' H' A := by
  refine ⟨_, hP, hD, fun t m hm => ?_, fun s n t m h1 h2 => hinj s n t m (by rw [q] at h1; exact h1) (by rw [q] at h2; exact h2)⟩
  rw [q] at hm
  by_cases hz : t = s ∧ m = n
  · obtain ⟨rfl, rfl⟩ := hz
    refine ⟨k, ?_⟩
    rw [List.getElem?_set_self (List.getElem?_eq_some_iff.mp hk).1, hx]
  · obtain ⟨k2, hk2⟩ := hws t m hm
    refine ⟨k2, ?_⟩
    have hne2 : k ≠ k2 := by
      intro e
      subst e
      rw [hk] at hk2
      have e1 : ad s n = ad t m := (Prod.mk.inj (Option.some.inj hk2)).1
      have := hinj s n t m hn hm e1
      exact hz ⟨this.1.symm, this.2.symm⟩
    rw [List.getElem?_set_ne hne2, hk2, hne t m hm hz]
theorem cel_sJrow {dA : Nat → ClassId} {ad : Nat → Nat → Nat} {h : MH} {s n i t m : Nat} {x : Int64} (hne : ¬ (t = s ∧ m = n)) : cel dA ad (sJ h s n i x) t m = cel dA ad h t m := by
  refine cel_keep (sameS_sJ ..) (fun _ => rfl) ?_ rfl (fun k h1 h2 h3 => rfl)
  funext j
  rw [hJ_sJ, if_neg (fun q => hne ⟨q.1, q.2.1⟩)]
theorem sameS_sR (h : MH) (s n i : Nat) (v : Option Nat) : sameS h (sR h s n i v) := rfl
theorem cel_sRrow {dA : Nat → ClassId} {ad : Nat → Nat → Nat} {h : MH} {s n i t m : Nat} {x : Option Nat} (hne : ¬ (t = s ∧ m = n)) : cel dA ad (sR h s n i x) t m = cel dA ad h t m := by
  refine cel_keep (sameS_sR ..) (fun _ => rfl) rfl ?_ (fun k h1 h2 h3 => rfl)
  funext j
  rw [hR_sR, if_neg (fun q => hne ⟨q.1, q.2.1⟩)]
theorem Wf_sR {h : MH} {s n i v : Nat} (w : Wf h) (hv : cok h (tgtT (tgS s)) v) : Wf (sR h s n i (some v)) := by
  obtain ⟨w1, w2, w3, w4⟩ := w
  refine ⟨w1, fun ci n k h1 h2 h3 => w2 ci n k h1 h2 h3, fun t m j u hb h1 h2 => ?_, w4⟩
  rw [hR_sR] at h2
  split at h2
  · rename_i z
    rw [z.1]
    cases h2
    exact hv
  · exact w3 t m j u hb h1 h2

theorem s_last {p : Program} {l : Launch} {e : Env} {R : Room} {s : State} {m : MethodId} {args : Array Value} {below : List Frame} {meth : Method} {c : Code} {Q : State → Prop} {cc : ByteArray} {nL : Nat} {own : String} {Ts : List Cond} {D : va_G} {dA : Nat → ClassId} {base : Nat} {ad0 : Nat → Nat → Nat} {h0 : MH} (F : Fix p s m args c cc nL own Ts D dA base ad0) {pc : Nat} {lo : List (Option MV)} {r : List MV} {h : MH} {sx n : Nat} {i : Int32} {x : Int64} (hd : decode cc pc = .ok (.lastore, 1)) (hr : isRow sx 3 = true) (hi : ¬ oob i (lenOf sx)) (k2 : AtW p l e R s m args below meth c Q nL D dA base ad0 h0 (pc + 1) (lo) (r) (sJ h sx n (ix i) x)) : AtW p l e R s m args below meth c Q nL D dA base ad0 h0 (pc) (lo) (vL x :: vI i :: vR sx n :: r) (h) := by
  intro H locs cells slots ad ls S
  have hs := (isRow_tg hr).1
  have hn : n < hC h sx := vR_live S.ok.2.2.1 (by omega)
  obtain ⟨ws, hP, hD, hws, hinj⟩ := S.1
  obtain ⟨q, hq⟩ := hws sx n hn
  have hq0 := hq
  rw [cel_rowJ hr] at hq
  refine va_last F.1 F.2.1 F.2.2.2.2.2.2.1 hP hD S.2.2.1 q 3 hq rfl hi hd (fun H1 locs1 hP1 hD1 hS1 => ?_)
  refine k2 H1 locs1 cells slots ad ls ⟨Sim.set (sameS_sJ ..) hws hinj hD hn hq0 ?_ (fun t m hm hne => cel_sJrow hne) hP1 hD1, S.2.1.same (sameS_sJ ..) rfl, hS1, S.2.2.2.1, (sameS_sJ ..).oks S.ok.2.2.2, fun i u hu => (sameS_sJ ..).vk (S.2.2.2.2.2.1 i u hu), S.2.2.2.2.2.2⟩
  rw [cel_rowJ hr]
  have e : vp_updL (hJ h sx n) (ix i) x = hJ (sJ h sx n (ix i) x) sx n := by
    funext j
    rw [hJ_sJ]
    by_cases hj : j = ix i
    · rw [if_pos ⟨rfl, rfl, hj⟩]; subst hj; simp [vp_updL]
    · rw [if_neg (fun z => hj z.2.2)]; simp [vp_updL, hj]
  rw [← e]
theorem s_aald {p : Program} {l : Launch} {e : Env} {R : Room} {s : State} {m : MethodId} {args : Array Value} {below : List Frame} {meth : Method} {c : Code} {Q : State → Prop} {cc : ByteArray} {nL : Nat} {own : String} {Ts : List Cond} {D : va_G} {dA : Nat → ClassId} {base : Nat} {ad0 : Nat → Nat → Nat} {h0 : MH} (F : Fix p s m args c cc nL own Ts D dA base ad0) {pc : Nat} {lo : List (Option MV)} {r : List MV} {h : MH} {sx n t : Nat} {i : Int32} (hd : decode cc pc = .ok (.aaload, 1)) (hr : isRow sx t = true) (ht : t = 4 ∨ t = 5) (hi : ¬ oob i (lenOf sx)) (k1 : ∀ u, hR h sx n (ix i) = some u → AtW p l e R s m args below meth c Q nL D dA base ad0 h0 (pc + 1) (lo) (vR (tgtT t) u :: r) (h)) (k2 : hR h sx n (ix i) = none → AtW p l e R s m args below meth c Q nL D dA base ad0 h0 (pc + 1) (lo) (vN :: r) (h)) : AtW p l e R s m args below meth c Q nL D dA base ad0 h0 (pc) (lo) (vI i :: vR sx n :: r) (h) := by
  intro H locs cells slots ad ls S
  have hs := (isRow_tg hr).1
  have hn : n < hC h sx := vR_live S.ok.2.1 (by omega)
  obtain ⟨ws, hP, hD, hws, hinj⟩ := S.1
  obtain ⟨q, hq⟩ := hws sx n hn
  have hq0 := hq
  rw [cel_rowR hr (by omega)] at hq
  have goal : W p l e R s m args below meth c H locs cells slots Q (F0 m (pc + 1) ls (va_rf ((hR h sx n (ix i)).map (ad (tgtT t))) :: r.map (rv ad))) := by
    cases hu : hR h sx n (ix i) with
    | none => exact k2 hu H locs cells slots ad ls (S.stk ⟨trivial, S.ok.2.2⟩)
    | some u => exact k1 u hu H locs cells slots ad ls (S.stk ⟨Or.inr (by have := S.2.1.2.2.1 sx n (ix i) u hs hn hu; rw [(isRow_tg hr).2] at this; exact this), S.ok.2.2⟩)
  rcases ht with rfl | rfl
  · exact va_aldq F.1 F.2.1 F.2.2.2.2.2.2.1 hP q 4 hq (C := RX5) rfl hi hd goal
  · exact va_aldq F.1 F.2.1 F.2.2.2.2.2.2.1 hP q 5 hq (C := RX9) rfl hi hd goal
theorem s_aast {p : Program} {l : Launch} {e : Env} {R : Room} {s : State} {m : MethodId} {args : Array Value} {below : List Frame} {meth : Method} {c : Code} {Q : State → Prop} {cc : ByteArray} {nL : Nat} {own : String} {Ts : List Cond} {D : va_G} {dA : Nat → ClassId} {base : Nat} {ad0 : Nat → Nat → Nat} {h0 : MH} (F : Fix p s m args c cc nL own Ts D dA base ad0) {pc : Nat} {lo : List (Option MV)} {r : List MV} {h : MH} {sx n t u : Nat} {i : Int32} (hd : decode cc pc = .ok (.aastore, 1)) (hr : isRow sx t = true) (ht : t = 4 ∨ t = 5) (hi : ¬ oob i (lenOf sx)) (k2 : AtW p l e R s m args below meth c Q nL D dA base ad0 h0 (pc + 1) (lo) (r) (sR h sx n (ix i) (some u))) : AtW p l e R s m args below meth c Q nL D dA base ad0 h0 (pc) (lo) (vR (tgtT t) u :: vI i :: vR sx n :: r) (h) := by
  intro H locs cells slots ad ls S
  have hs := (isRow_tg hr).1
  have hn : n < hC h sx := vR_live S.ok.2.2.1 (by omega)
  obtain ⟨ws, hP, hD, hws, hinj⟩ := S.1
  obtain ⟨q, hq⟩ := hws sx n hn
  have hq0 := hq
  have htg : tgtT t = 900005 ∨ tgtT t = 900009 := by
    rcases ht with rfl | rfl
    · exact Or.inl rfl
    · exact Or.inr rfl
  have hcu : cok h (tgtT t) u := by
    rcases S.ok.1 with z | z
    · have z : tgtT t < 100 := z
      omega
    · exact z
  rw [cel_rowR hr (by omega)] at hq
  obtain ⟨qk, hqk⟩ := hws (tgtT t) u hcu.1
  have eup : va_up (fun j => (hR h sx n j).map (ad (tgtT t))) (ix i) (some (ad (tgtT t) u)) = fun j => (hR (sR h sx n (ix i) (some u)) sx n j).map (ad (tgtT t)) := by
    funext j
    rw [hR_sR]
    by_cases hj : j = ix i
    · rw [if_pos ⟨rfl, rfl, hj⟩]; subst hj; simp [va_up]
    · rw [if_neg (fun z => hj z.2.2)]; simp [va_up, hj]
  have fin : ∀ (H1 : Heap) (locs1 : List Loc), va_P D clT (ws.set q (ad sx n, .inl (dA t, lenOf sx, .inr (.inr (.inr (.inr (va_up (fun j => (hR h sx n j).map (ad (tgtT t))) (ix i) (some (ad (tgtT t) u)))))))) ) H1 → va_D (fun q => base ≤ q) (ws.set q (ad sx n, .inl (dA t, lenOf sx, .inr (.inr (.inr (.inr (va_up (fun j => (hR h sx n j).map (ad (tgtT t))) (ix i) (some (ad (tgtT t) u)))))))) ) → va_S (fun q => base ≤ q) s.heap H1 locs1 → W p l e R s m args below meth c H1 locs1 cells slots Q (F0 m (pc + 1) ls (r.map (rv ad))) := by
    intro H1 locs1 hP1 hD1 hS1
    refine k2 H1 locs1 cells slots ad ls ⟨Sim.set (sameS_sR ..) hws hinj hD hn hq0 ?_ (fun t m hm hne => cel_sRrow hne) hP1 hD1, Wf_sR S.2.1 (by rw [(isRow_tg hr).2]; exact hcu), hS1, S.2.2.2.1, (sameS_sR ..).oks S.ok.2.2.2, fun i u hu => (sameS_sR ..).vk (S.2.2.2.2.2.1 i u hu), S.2.2.2.2.2.2⟩
    rw [cel_rowR hr (by omega), eup]
  rcases ht with rfl | rfl
  · have hqk : ws[qk]? = some (ad 900005 u, .inr (5, fsv ad h 5 u)) := by rw [hqk]; exact congrArg (fun z => some (ad 900005 u, z)) (cel_obj (ci := 5) (by decide))
    exact va_astq F.1 F.2.1 F.2.2.2.2.2.2.1 hP hD S.2.2.1 q 4 qk 5 (r := (RX5, TX5, 17)) hq rfl hqk rfl hi hd fin
  · have hqk : ws[qk]? = some (ad 900009 u, .inr (9, fsv ad h 9 u)) := by rw [hqk]; exact congrArg (fun z => some (ad 900009 u, z)) (cel_obj (ci := 9) (by decide))
    exact va_astq F.1 F.2.1 F.2.2.2.2.2.2.1 hP hD S.2.2.1 q 5 qk 9 (r := (RX9, TX9, 6)) hq rfl hqk rfl hi hd fin
theorem s_getN {p : Program} {l : Launch} {e : Env} {R : Room} {s : State} {m : MethodId} {args : Array Value} {below : List Frame} {meth : Method} {c : Code} {Q : State → Prop} {cc : ByteArray} {nL : Nat} {own : String} {Ts : List Cond} {D : va_G} {dA : Nat → ClassId} {base : Nat} {ad0 : Nat → Nat → Nat} {h0 : MH} (F : Fix p s m args c cc nL own Ts D dA base ad0) {pc : Nat} {lo : List (Option MV)} {r : List MV} {h : MH} {n : Nat} (ho : own = "PuntYard$Bill") (hd : decode cc pc = .ok (.getfield 9, 3)) (k2 : AtW p l e R s m args below meth c Q nL D dA base ad0 h0 (pc + 3) (lo) (vR 900001 0 :: r) (h)) : AtW p l e R s m args below meth c Q nL D dA base ad0 h0 (pc) (lo) (vR 900010 n :: r) (h) := by
  intro H locs cells slots ad ls S
  subst ho
  have hck : cok h (900000 + 10) n := by
    rcases S.ok.1 with z | z
    · exact absurd z (by show ¬ (900010 < 100); decide)
    · exact z
  obtain ⟨ws, hP, hD, hws, hinj⟩ := S.1
  obtain ⟨q, hq⟩ := hws (900000 + 10) n hck.1
  rw [cel_obj (by decide)] at hq
  have hst : fset h 10 n 0 := Or.inl (hck.2 (by decide))
  have hc : clT[10]? = some (RX10, TX10, 5) := rfl
  refine va_getN F.1 F.2.1 (own := "PuntYard$Bill") (C := RX10) (T := TX10) (N := 5) (ref := RX10) (host := "PuntYard") F.2.2.2.2.1 (fun w hw => F.2.2.2.2.2.1 w ((clT_ok hc).1.1 w hw)) F.2.2.2.1 F.2.2.2.2.2.2.1 hP q hq hc 0 (by decide) (va_Nw.use rfl F.2.2.2.2.2.2.2.2.1) (fun x hx => hx) (fsv_get (by decide)) hd ?_
  have e : fval ad h 10 n 0 = rv ad (vR 900001 0) := by
    unfold fval
    rw [if_neg (by decide), if_pos hst, if_neg (by decide)]
    rfl
  rw [e]
  exact k2 H locs cells slots ad ls (S.stk ⟨Or.inr ((S.2.1.2.1 10 n 0 (by decide) hck.1 hst).2 (by decide)), S.ok.2⟩)
