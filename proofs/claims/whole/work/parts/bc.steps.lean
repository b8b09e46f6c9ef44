/-! EACH CALL keeps the relation (printed by wip/whole/emitsteps.py) -/
def StepR (L : Nat) (scr : Nat → Int32) (D : Nat) (jx jm : Nat) (ax am : List MV) (h : MH) : Prop := ∃ r h1 h2, E L scr D jx ax h = some (some r, h1) ∧ E L scr D jm am h1 = some (some r, h2) ∧ Rel h2 ∧ hc h2 ≤ hc h + 49 ∧ hs h2 ≤ hs h + 2871
theorem SAll_Scr : ∀ q ∈ SAll, q ∉ Scr := by decide +kernel
theorem STape_Scr : ∀ q ∈ STape, q ∉ Scr := by decide +kernel
theorem okScr : okW Scr := (by decide +kernel : ∀ q, q ∈ Scr → q.1 ∉ badS ∧ (q.2 = 0 ∨ q.1 ∉ tkAll.map Prod.fst))
theorem StepR.of {L : Nat} {scr : Nat → Int32} {D jx jm : Nat} {ax am : List MV} {h : MH} {W : List (Nat × Nat)} {Q : MH → Prop} (b : Both L scr D W Q jx jm ax am h) (r : Rel h) (w : okW W) (im : ∀ h2, Upd W h h2 → Q h2 → RIm h2) (tp : ∀ h2, Upd W h h2 → Q h2 → RTape h2) : StepR L scr D jx jm ax am h := by
  obtain ⟨a, h1, h2, e1, e2, u, q⟩ := b
  exact ⟨a, h1, h2, e1, e2, r.upd u w (im h2 u q) (tp h2 u q), by unfold hc; rw [u.1]; omega, by unfold hs; rw [u.1]; omega⟩
theorem StepR.sc {L : Nat} {scr : Nat → Int32} {D jx jm : Nat} {ax am : List MV} {h : MH} {Q : MH → Prop} (b : Both L scr D Scr Q jx jm ax am h) (r : Rel h) : StepR L scr D jx jm ax am h :=
  StepR.of b r okScr (fun _ u _ => r.1.ag (Ag.of u SAll_Scr)) (fun _ u _ => r.2.2.1.fr u STape_Scr)
theorem RIm.uj {h h2 : MH} (u : UpdJ h h2) (r : RIm h) : RIm h2 := r.ag (fun q _ => by rw [u.I])
theorem Rel.uj {h h2 : MH} (u : UpdJ h h2) (r : Rel h) : Rel h2 := by
  obtain ⟨r1, r2, r3, r4, r5, r6, r7⟩ := r
  have eI : hI h2 = hI h := u.I
  have eC : hC h2 = hC h := by unfold hC; rw [u.2]
  have eD : hD h2 = hD h := by unfold hD; rw [u.2]
  have eR : hR h2 = hR h := by unfold hR; rw [u.2]
  exact ⟨r1.uj u, r2.same (fun q _ => by rw [eI]) (fun q _ j => by rw [eI]) (fun i => by rw [eR]) (fun X _ => by rw [eC, eD]; exact ⟨rfl, rfl⟩) (fun s _ => by rw [eC]), r3.ag (fun q _ => by rw [eI]), r4.ag (fun q _ => by rw [eI]), r5.ag (fun q _ => by rw [eI]), LawSame.go ⟨fun s _ k => by rw [eI], fun s _ => by rw [eI], fun k => by rw [eR]⟩ r6, r7.same (by rw [eI]) (by rw [eC, eD]; exact ⟨rfl, rfl⟩) (fun s _ => by rw [eC]) (fun i => by rw [eR])⟩
theorem StepR.j {L : Nat} {scr : Nat → Int32} {D jx jm : Nat} {ax am : List MV} {h : MH} (b : BothJ L scr D jx jm ax am h) (r : Rel h) : StepR L scr D jx jm ax am h := by
  obtain ⟨a, h1, h2, e1, e2, u⟩ := b
  exact ⟨a, h1, h2, e1, e2, r.uj u, by unfold hc; rw [u.2]; omega, by unfold hs; rw [u.2]; omega⟩
section Steps
variable {L : Nat} {scr : Nat → Int32} {d : Nat}
theorem st_water (x y : Int32) (h : MH) (r : Rel h) : StepR L scr (d + 40) 128 235 [vR 900011 0, vI x, vI y] [vR 900012 0, vI x, vI y] h := by
  obtain ⟨⟨x1, x2, x3, x4, x5, x6, x7, x8, x9, x10, x11, x12, x13, x14, x15, x16⟩, r2, r3, r4, r5, ⟨r6, r7, r8, r9⟩, r0⟩ := id r
  exact StepR.of (call_water (L := L) (scr := scr) (d := d) x y h x1) r (by decide +kernel : ∀ q, q ∈ SWater → q.1 ∉ badS ∧ (q.2 = 0 ∨ q.1 ∉ tkAll.map Prod.fst)) (fun _ u q => ⟨q, x2.fr u (by decide +kernel), x3.fr u (by decide +kernel), x4.fr u (by decide +kernel), x5.fr u (by decide +kernel), x6.fr u (by decide +kernel), x7.fr u (by decide +kernel), x8.fr u (by decide +kernel), x9.fr u (by decide +kernel), x10.fr u (by decide +kernel), x11.fr u (by decide +kernel), x12.fr u (by decide +kernel), x13.fr u (by decide +kernel), x14.fr u (by decide +kernel), x15.fr u (by decide +kernel), x16.fr u (by decide +kernel)⟩) (fun _ u _ => r3.fr u (by decide +kernel))
theorem st_weed (x : Int32) (h : MH) (r : Rel h) : StepR L scr (d + 40) 137 238 [vR 900011 0, vI x] [vR 900012 0, vI x] h := by
  obtain ⟨⟨x1, x2, x3, x4, x5, x6, x7, x8, x9, x10, x11, x12, x13, x14, x15, x16⟩, r2, r3, r4, r5, ⟨r6, r7, r8, r9⟩, r0⟩ := id r
  exact StepR.of (call_weed (L := L) (scr := scr) (d := d) x h x3) r (by decide +kernel : ∀ q, q ∈ SWeed → q.1 ∉ badS ∧ (q.2 = 0 ∨ q.1 ∉ tkAll.map Prod.fst)) (fun _ u q => ⟨x1.fr u (by decide +kernel), x2.fr u (by decide +kernel), q, x4.fr u (by decide +kernel), x5.fr u (by decide +kernel), x6.fr u (by decide +kernel), x7.fr u (by decide +kernel), x8.fr u (by decide +kernel), x9.fr u (by decide +kernel), x10.fr u (by decide +kernel), x11.fr u (by decide +kernel), x12.fr u (by decide +kernel), x13.fr u (by decide +kernel), x14.fr u (by decide +kernel), x15.fr u (by decide +kernel), x16.fr u (by decide +kernel)⟩) (fun _ u _ => r3.fr u (by decide +kernel))
theorem st_cut (x : Int32) (h : MH) (r : Rel h) : StepR L scr (d + 40) 138 239 [vR 900011 0, vI x] [vR 900012 0, vI x] h := by
  obtain ⟨⟨x1, x2, x3, x4, x5, x6, x7, x8, x9, x10, x11, x12, x13, x14, x15, x16⟩, r2, r3, r4, r5, ⟨r6, r7, r8, r9⟩, r0⟩ := id r
  exact StepR.of (call_cut (L := L) (scr := scr) (d := d) x h x3) r (by decide +kernel : ∀ q, q ∈ SWeed → q.1 ∉ badS ∧ (q.2 = 0 ∨ q.1 ∉ tkAll.map Prod.fst)) (fun _ u q => ⟨x1.fr u (by decide +kernel), x2.fr u (by decide +kernel), q, x4.fr u (by decide +kernel), x5.fr u (by decide +kernel), x6.fr u (by decide +kernel), x7.fr u (by decide +kernel), x8.fr u (by decide +kernel), x9.fr u (by decide +kernel), x10.fr u (by decide +kernel), x11.fr u (by decide +kernel), x12.fr u (by decide +kernel), x13.fr u (by decide +kernel), x14.fr u (by decide +kernel), x15.fr u (by decide +kernel), x16.fr u (by decide +kernel)⟩) (fun _ u _ => r3.fr u (by decide +kernel))
theorem st_doubt (x y : Int32) (h : MH) (r : Rel h) : StepR L scr (d + 40) 150 287 [vR 900011 0, vI x, vI y] [vR 900012 0, vI x, vI y] h := by
  obtain ⟨⟨x1, x2, x3, x4, x5, x6, x7, x8, x9, x10, x11, x12, x13, x14, x15, x16⟩, r2, r3, r4, r5, ⟨r6, r7, r8, r9⟩, r0⟩ := id r
  exact StepR.of (call_doubt (L := L) (scr := scr) (d := d) x y h x6) r (by decide +kernel : ∀ q, q ∈ SDoubt → q.1 ∉ badS ∧ (q.2 = 0 ∨ q.1 ∉ tkAll.map Prod.fst)) (fun _ u q => ⟨x1.fr u (by decide +kernel), x2.fr u (by decide +kernel), x3.fr u (by decide +kernel), x4.fr u (by decide +kernel), x5.fr u (by decide +kernel), q, x7.fr u (by decide +kernel), x8.fr u (by decide +kernel), x9.fr u (by decide +kernel), x10.fr u (by decide +kernel), x11.fr u (by decide +kernel), x12.fr u (by decide +kernel), x13.fr u (by decide +kernel), x14.fr u (by decide +kernel), x15.fr u (by decide +kernel), x16.fr u (by decide +kernel)⟩) (fun _ u _ => r3.fr u (by decide +kernel))
theorem st_chance (x y z : Int32) (h : MH) (r : Rel h) : StepR L scr (d + 40) 152 290 [vR 900011 0, vI x, vI y, vI z] [vR 900012 0, vI x, vI y, vI z] h := by
  obtain ⟨⟨x1, x2, x3, x4, x5, x6, x7, x8, x9, x10, x11, x12, x13, x14, x15, x16⟩, r2, r3, r4, r5, ⟨r6, r7, r8, r9⟩, r0⟩ := id r
  exact StepR.of (call_chance (L := L) (scr := scr) (d := d) x y z h x7) r (by decide +kernel : ∀ q, q ∈ SChance → q.1 ∉ badS ∧ (q.2 = 0 ∨ q.1 ∉ tkAll.map Prod.fst)) (fun _ u q => ⟨x1.fr u (by decide +kernel), x2.fr u (by decide +kernel), x3.fr u (by decide +kernel), x4.fr u (by decide +kernel), x5.fr u (by decide +kernel), x6.fr u (by decide +kernel), q, x8.fr u (by decide +kernel), x9.fr u (by decide +kernel), x10.fr u (by decide +kernel), x11.fr u (by decide +kernel), x12.fr u (by decide +kernel), x13.fr u (by decide +kernel), x14.fr u (by decide +kernel), x15.fr u (by decide +kernel), x16.fr u (by decide +kernel)⟩) (fun _ u _ => r3.fr u (by decide +kernel))
theorem st_roll (x y : Int32) (h : MH) (r : Rel h) : StepR L scr (d + 40) 156 299 [vR 900011 0, vI x, vI y] [vR 900012 0, vI x, vI y] h := by
  obtain ⟨⟨x1, x2, x3, x4, x5, x6, x7, x8, x9, x10, x11, x12, x13, x14, x15, x16⟩, r2, r3, r4, r5, ⟨r6, r7, r8, r9⟩, r0⟩ := id r
  exact StepR.of (call_roll (L := L) (scr := scr) (d := d) x y h x9) r (by decide +kernel : ∀ q, q ∈ SRoll → q.1 ∉ badS ∧ (q.2 = 0 ∨ q.1 ∉ tkAll.map Prod.fst)) (fun _ u q => ⟨x1.fr u (by decide +kernel), x2.fr u (by decide +kernel), x3.fr u (by decide +kernel), x4.fr u (by decide +kernel), x5.fr u (by decide +kernel), x6.fr u (by decide +kernel), x7.fr u (by decide +kernel), x8.fr u (by decide +kernel), q, x10.fr u (by decide +kernel), x11.fr u (by decide +kernel), x12.fr u (by decide +kernel), x13.fr u (by decide +kernel), x14.fr u (by decide +kernel), x15.fr u (by decide +kernel), x16.fr u (by decide +kernel)⟩) (fun _ u _ => r3.fr u (by decide +kernel))
theorem st_guide (x : Int32) (h : MH) (r : Rel h) : StepR L scr (d + 40) 158 303 [vR 900011 0, vI x] [vR 900012 0, vI x] h := by
  obtain ⟨⟨x1, x2, x3, x4, x5, x6, x7, x8, x9, x10, x11, x12, x13, x14, x15, x16⟩, r2, r3, r4, r5, ⟨r6, r7, r8, r9⟩, r0⟩ := id r
  exact StepR.of (call_guide (L := L) (scr := scr) (d := d) x h x10) r (by decide +kernel : ∀ q, q ∈ SGuide → q.1 ∉ badS ∧ (q.2 = 0 ∨ q.1 ∉ tkAll.map Prod.fst)) (fun _ u q => ⟨x1.fr u (by decide +kernel), x2.fr u (by decide +kernel), x3.fr u (by decide +kernel), x4.fr u (by decide +kernel), x5.fr u (by decide +kernel), x6.fr u (by decide +kernel), x7.fr u (by decide +kernel), x8.fr u (by decide +kernel), x9.fr u (by decide +kernel), q, x11.fr u (by decide +kernel), x12.fr u (by decide +kernel), x13.fr u (by decide +kernel), x14.fr u (by decide +kernel), x15.fr u (by decide +kernel), x16.fr u (by decide +kernel)⟩) (fun _ u _ => r3.fr u (by decide +kernel))
theorem st_party (x y : Int32) (h : MH) (r : Rel h) : StepR L scr (d + 40) 159 304 [vR 900011 0, vI x, vI y] [vR 900012 0, vI x, vI y] h := by
  obtain ⟨⟨x1, x2, x3, x4, x5, x6, x7, x8, x9, x10, x11, x12, x13, x14, x15, x16⟩, r2, r3, r4, r5, ⟨r6, r7, r8, r9⟩, r0⟩ := id r
  exact StepR.of (call_party (L := L) (scr := scr) (d := d) x y h x11) r (by decide +kernel : ∀ q, q ∈ SParty → q.1 ∉ badS ∧ (q.2 = 0 ∨ q.1 ∉ tkAll.map Prod.fst)) (fun _ u q => ⟨x1.fr u (by decide +kernel), x2.fr u (by decide +kernel), x3.fr u (by decide +kernel), x4.fr u (by decide +kernel), x5.fr u (by decide +kernel), x6.fr u (by decide +kernel), x7.fr u (by decide +kernel), x8.fr u (by decide +kernel), x9.fr u (by decide +kernel), x10.fr u (by decide +kernel), q, x12.fr u (by decide +kernel), x13.fr u (by decide +kernel), x14.fr u (by decide +kernel), x15.fr u (by decide +kernel), x16.fr u (by decide +kernel)⟩) (fun _ u _ => r3.fr u (by decide +kernel))
theorem st_loyal (x : Int32) (h : MH) (r : Rel h) : StepR L scr (d + 40) 169 322 [vR 900011 0, vI x] [vR 900012 0, vI x] h := by
  obtain ⟨⟨x1, x2, x3, x4, x5, x6, x7, x8, x9, x10, x11, x12, x13, x14, x15, x16⟩, r2, r3, r4, r5, ⟨r6, r7, r8, r9⟩, r0⟩ := id r
  exact StepR.of (call_loyal (L := L) (scr := scr) (d := d) x h x8) r (by decide +kernel : ∀ q, q ∈ SLoyal → q.1 ∉ badS ∧ (q.2 = 0 ∨ q.1 ∉ tkAll.map Prod.fst)) (fun _ u q => ⟨x1.fr u (by decide +kernel), x2.fr u (by decide +kernel), x3.fr u (by decide +kernel), x4.fr u (by decide +kernel), x5.fr u (by decide +kernel), x6.fr u (by decide +kernel), x7.fr u (by decide +kernel), q, x9.fr u (by decide +kernel), x10.fr u (by decide +kernel), x11.fr u (by decide +kernel), x12.fr u (by decide +kernel), x13.fr u (by decide +kernel), x14.fr u (by decide +kernel), x15.fr u (by decide +kernel), x16.fr u (by decide +kernel)⟩) (fun _ u _ => r3.fr u (by decide +kernel))
theorem st_rain (x y z : Int32) (h : MH) (r : Rel h) : StepR L scr (d + 40) 129 236 [vR 900011 0, vI x, vI y, vI z] [vR 900012 0, vI x, vI y, vI z] h := by
  obtain ⟨⟨x1, x2, x3, x4, x5, x6, x7, x8, x9, x10, x11, x12, x13, x14, x15, x16⟩, r2, r3, r4, r5, ⟨r6, r7, r8, r9⟩, r0⟩ := id r
  exact StepR.of (call_rain (L := L) (scr := scr) (d := d) x y z h x2) r (by decide +kernel : ∀ q, q ∈ SSpell → q.1 ∉ badS ∧ (q.2 = 0 ∨ q.1 ∉ tkAll.map Prod.fst)) (fun _ u q => ⟨x1.fr u (by decide +kernel), q, x3.fr u (by decide +kernel), x4.fr u (by decide +kernel), x5.fr u (by decide +kernel), x6.fr u (by decide +kernel), x7.fr u (by decide +kernel), x8.fr u (by decide +kernel), x9.fr u (by decide +kernel), x10.fr u (by decide +kernel), x11.fr u (by decide +kernel), x12.fr u (by decide +kernel), x13.fr u (by decide +kernel), x14.fr u (by decide +kernel), x15.fr u (by decide +kernel), x16.fr u (by decide +kernel)⟩) (fun _ u _ => r3.fr u (by decide +kernel))
theorem st_nest (x y z : Int32) (h : MH) (r : Rel h) : StepR L scr (d + 40) 171 325 [vR 900011 0, vI x, vI y, vI z] [vR 900012 0, vI x, vI y, vI z] h := by
  obtain ⟨⟨x1, x2, x3, x4, x5, x6, x7, x8, x9, x10, x11, x12, x13, x14, x15, x16⟩, r2, r3, r4, r5, ⟨r6, r7, r8, r9⟩, r0⟩ := id r
  exact StepR.of (call_nest (L := L) (scr := scr) (d := d) x y z h x4) r (by decide +kernel : ∀ q, q ∈ SNest → q.1 ∉ badS ∧ (q.2 = 0 ∨ q.1 ∉ tkAll.map Prod.fst)) (fun _ u q => ⟨x1.fr u (by decide +kernel), x2.fr u (by decide +kernel), x3.fr u (by decide +kernel), q, x5.fr u (by decide +kernel), x6.fr u (by decide +kernel), x7.fr u (by decide +kernel), x8.fr u (by decide +kernel), x9.fr u (by decide +kernel), x10.fr u (by decide +kernel), x11.fr u (by decide +kernel), x12.fr u (by decide +kernel), x13.fr u (by decide +kernel), x14.fr u (by decide +kernel), x15.fr u (by decide +kernel), x16.fr u (by decide +kernel)⟩) (fun _ u _ => r3.fr u (by decide +kernel))
theorem st_regatta (x y z w : Int32) (h : MH) (r : Rel h) : StepR L scr (d + 40) 172 326 [vR 900011 0, vI x, vI y, vI z, vI w] [vR 900012 0, vI x, vI y, vI z, vI w] h := by
  obtain ⟨⟨x1, x2, x3, x4, x5, x6, x7, x8, x9, x10, x11, x12, x13, x14, x15, x16⟩, r2, r3, r4, r5, ⟨r6, r7, r8, r9⟩, r0⟩ := id r
  exact StepR.of (call_regatta (L := L) (scr := scr) (d := d) x y z w h x5) r (by decide +kernel : ∀ q, q ∈ SRace → q.1 ∉ badS ∧ (q.2 = 0 ∨ q.1 ∉ tkAll.map Prod.fst)) (fun _ u q => ⟨x1.fr u (by decide +kernel), x2.fr u (by decide +kernel), x3.fr u (by decide +kernel), x4.fr u (by decide +kernel), q, x6.fr u (by decide +kernel), x7.fr u (by decide +kernel), x8.fr u (by decide +kernel), x9.fr u (by decide +kernel), x10.fr u (by decide +kernel), x11.fr u (by decide +kernel), x12.fr u (by decide +kernel), x13.fr u (by decide +kernel), x14.fr u (by decide +kernel), x15.fr u (by decide +kernel), x16.fr u (by decide +kernel)⟩) (fun _ u _ => r3.fr u (by decide +kernel))
theorem st_swamp (x y : Int32) (h : MH) (r : Rel h) : StepR L scr (d + 40) 135 260 [vR 900011 0, vI x, vI y] [vR 900012 0, vI x, vI y] h := by
  obtain ⟨⟨x1, x2, x3, x4, x5, x6, x7, x8, x9, x10, x11, x12, x13, x14, x15, x16⟩, r2, r3, r4, r5, ⟨r6, r7, r8, r9⟩, r0⟩ := id r
  exact StepR.of (call_swamp (L := L) (scr := scr) (d := d) x y h x16) r (by decide +kernel : ∀ q, q ∈ WHr → q.1 ∉ badS ∧ (q.2 = 0 ∨ q.1 ∉ tkAll.map Prod.fst)) (fun _ u q => ⟨x1.fr u (by decide +kernel), x2.fr u (by decide +kernel), x3.fr u (by decide +kernel), x4.fr u (by decide +kernel), x5.fr u (by decide +kernel), x6.fr u (by decide +kernel), x7.fr u (by decide +kernel), x8.fr u (by decide +kernel), x9.fr u (by decide +kernel), x10.fr u (by decide +kernel), x11.fr u (by decide +kernel), x12.fr u (by decide +kernel), x13.fr u (by decide +kernel), x14.fr u (by decide +kernel), x15.fr u (by decide +kernel), q⟩) (fun _ u _ => r3.fr u (by decide +kernel))
theorem st_cushions (x y z : Int32) (h : MH) (r : Rel h) : StepR L scr (d + 40) 136 261 [vR 900011 0, vI x, vI y, vI z] [vR 900012 0, vI x, vI y, vI z] h := by
  obtain ⟨⟨x1, x2, x3, x4, x5, x6, x7, x8, x9, x10, x11, x12, x13, x14, x15, x16⟩, r2, r3, r4, r5, ⟨r6, r7, r8, r9⟩, r0⟩ := id r
  exact StepR.of (call_cushions (L := L) (scr := scr) (d := d) x y z h x16) r (by decide +kernel : ∀ q, q ∈ WHr → q.1 ∉ badS ∧ (q.2 = 0 ∨ q.1 ∉ tkAll.map Prod.fst)) (fun _ u q => ⟨x1.fr u (by decide +kernel), x2.fr u (by decide +kernel), x3.fr u (by decide +kernel), x4.fr u (by decide +kernel), x5.fr u (by decide +kernel), x6.fr u (by decide +kernel), x7.fr u (by decide +kernel), x8.fr u (by decide +kernel), x9.fr u (by decide +kernel), x10.fr u (by decide +kernel), x11.fr u (by decide +kernel), x12.fr u (by decide +kernel), x13.fr u (by decide +kernel), x14.fr u (by decide +kernel), x15.fr u (by decide +kernel), q⟩) (fun _ u _ => r3.fr u (by decide +kernel))
theorem st_back (x y : Int32) (h : MH) (r : Rel h) : StepR L scr (d + 40) 133 258 [vR 900011 0, vI x, vI y] [vR 900012 0, vI x, vI y] h := by
  obtain ⟨⟨x1, x2, x3, x4, x5, x6, x7, x8, x9, x10, x11, x12, x13, x14, x15, x16⟩, r2, r3, r4, r5, ⟨r6, r7, r8, r9⟩, r0⟩ := id r
  exact StepR.of (call_back (L := L) (scr := scr) (d := d) x y h x16) r (by decide +kernel : ∀ q, q ∈ WT → q.1 ∉ badS ∧ (q.2 = 0 ∨ q.1 ∉ tkAll.map Prod.fst)) (fun _ u q => ⟨x1.fr u (by decide +kernel), x2.fr u (by decide +kernel), x3.fr u (by decide +kernel), x4.fr u (by decide +kernel), x5.fr u (by decide +kernel), x6.fr u (by decide +kernel), x7.fr u (by decide +kernel), x8.fr u (by decide +kernel), x9.fr u (by decide +kernel), x10.fr u (by decide +kernel), x11.fr u (by decide +kernel), x12.fr u (by decide +kernel), x13.fr u (by decide +kernel), x14.fr u (by decide +kernel), x15.fr u (by decide +kernel), q⟩) (fun _ u _ => r3.fr u (by decide +kernel))
theorem st_mend (x y : Int32) (h : MH) (r : Rel h) : StepR L scr (d + 40) 134 259 [vR 900011 0, vI x, vI y] [vR 900012 0, vI x, vI y] h := by
  obtain ⟨⟨x1, x2, x3, x4, x5, x6, x7, x8, x9, x10, x11, x12, x13, x14, x15, x16⟩, r2, r3, r4, r5, ⟨r6, r7, r8, r9⟩, r0⟩ := id r
  exact StepR.of (call_mend (L := L) (scr := scr) (d := d) x y h x16) r (by decide +kernel : ∀ q, q ∈ WT → q.1 ∉ badS ∧ (q.2 = 0 ∨ q.1 ∉ tkAll.map Prod.fst)) (fun _ u q => ⟨x1.fr u (by decide +kernel), x2.fr u (by decide +kernel), x3.fr u (by decide +kernel), x4.fr u (by decide +kernel), x5.fr u (by decide +kernel), x6.fr u (by decide +kernel), x7.fr u (by decide +kernel), x8.fr u (by decide +kernel), x9.fr u (by decide +kernel), x10.fr u (by decide +kernel), x11.fr u (by decide +kernel), x12.fr u (by decide +kernel), x13.fr u (by decide +kernel), x14.fr u (by decide +kernel), x15.fr u (by decide +kernel), q⟩) (fun _ u _ => r3.fr u (by decide +kernel))
theorem st_hire (x y : Int32) (h : MH) (r : Rel h) : StepR L scr (d + 40) 139 262 [vR 900011 0, vI x, vI y] [vR 900012 0, vI x, vI y] h := by
  obtain ⟨⟨x1, x2, x3, x4, x5, x6, x7, x8, x9, x10, x11, x12, x13, x14, x15, x16⟩, r2, r3, r4, r5, ⟨r6, r7, r8, r9⟩, r0⟩ := id r
  exact StepR.sc (call_hire (L := L) (scr := scr) (d := d) x y h x16 x15) r
theorem st_pass (x y z : Int32) (h : MH) (r : Rel h) : StepR L scr (d + 40) 163 312 [vR 900011 0, vI x, vI y, vI z] [vR 900012 0, vI x, vI y, vI z] h := by
  obtain ⟨⟨x1, x2, x3, x4, x5, x6, x7, x8, x9, x10, x11, x12, x13, x14, x15, x16⟩, r2, r3, r4, r5, ⟨r6, r7, r8, r9⟩, r0⟩ := id r
  exact StepR.of (call_pass (L := L) (scr := scr) (d := d) x y z h x16 x15) r (by decide +kernel : ∀ q, q ∈ SPass → q.1 ∉ badS ∧ (q.2 = 0 ∨ q.1 ∉ tkAll.map Prod.fst)) (fun _ u q => ⟨x1.fr u (by decide +kernel), x2.fr u (by decide +kernel), x3.fr u (by decide +kernel), x4.fr u (by decide +kernel), x5.fr u (by decide +kernel), x6.fr u (by decide +kernel), x7.fr u (by decide +kernel), x8.fr u (by decide +kernel), x9.fr u (by decide +kernel), x10.fr u (by decide +kernel), x11.fr u (by decide +kernel), x12.fr u (by decide +kernel), x13.fr u (by decide +kernel), x14.fr u (by decide +kernel), q, x16.fr u (by decide +kernel)⟩) (fun _ u _ => r3.fr u (by decide +kernel))
theorem st_pole (x : Int32) (h : MH) (r : Rel h) : StepR L scr (d + 40) 164 313 [vR 900011 0, vI x] [vR 900012 0, vI x] h := by
  obtain ⟨⟨x1, x2, x3, x4, x5, x6, x7, x8, x9, x10, x11, x12, x13, x14, x15, x16⟩, r2, r3, r4, r5, ⟨r6, r7, r8, r9⟩, r0⟩ := id r
  exact StepR.sc (call_pole (L := L) (scr := scr) (d := d) x h x16 x15) r
theorem st_outs (x y : Int32) (h : MH) (r : Rel h) : StepR L scr (d + 40) 142 275 [vR 900011 0, vI x, vI y] [vR 900012 0, vI x, vI y] h := by
  obtain ⟨⟨x1, x2, x3, x4, x5, x6, x7, x8, x9, x10, x11, x12, x13, x14, x15, x16⟩, r2, r3, r4, r5, ⟨r6, r7, r8, r9⟩, r0⟩ := id r
  exact StepR.sc (call_outs (L := L) (scr := scr) (d := d) x y h x16) r
theorem st_known (x y : Int32) (h : MH) (r : Rel h) : StepR L scr (d + 40) 140 263 [vR 900011 0, vI x, vI y] [vR 900012 0, vI x, vI y] h := by
  obtain ⟨⟨x1, x2, x3, x4, x5, x6, x7, x8, x9, x10, x11, x12, x13, x14, x15, x16⟩, r2, r3, r4, r5, ⟨r6, r7, r8, r9⟩, r0⟩ := id r
  exact StepR.sc (call_known (L := L) (scr := scr) (d := d) x y h x16) r
theorem st_earned (x : Int32) (h : MH) (r : Rel h) : StepR L scr (d + 40) 162 311 [vR 900011 0, vI x] [vR 900012 0, vI x] h := by
  obtain ⟨⟨x1, x2, x3, x4, x5, x6, x7, x8, x9, x10, x11, x12, x13, x14, x15, x16⟩, r2, r3, r4, r5, ⟨r6, r7, r8, r9⟩, r0⟩ := id r
  exact StepR.sc (call_earned (L := L) (scr := scr) (d := d) x h x10) r
theorem st_fail (x y z : Int32) (h : MH) (r : Rel h) : StepR L scr (d + 40) 167 320 [vR 900011 0, vI x, vI y, vI z] [vR 900012 0, vI x, vI y, vI z] h := by
  obtain ⟨⟨x1, x2, x3, x4, x5, x6, x7, x8, x9, x10, x11, x12, x13, x14, x15, x16⟩, r2, r3, r4, r5, ⟨r6, r7, r8, r9⟩, r0⟩ := id r
  exact StepR.of (call_fail (L := L) (scr := scr) (d := d) x y z h x14 x12) r (by decide +kernel : ∀ q, q ∈ SFail → q.1 ∉ badS ∧ (q.2 = 0 ∨ q.1 ∉ tkAll.map Prod.fst)) (fun _ u q => ⟨x1.fr u (by decide +kernel), x2.fr u (by decide +kernel), x3.fr u (by decide +kernel), x4.fr u (by decide +kernel), x5.fr u (by decide +kernel), x6.fr u (by decide +kernel), x7.fr u (by decide +kernel), x8.fr u (by decide +kernel), x9.fr u (by decide +kernel), x10.fr u (by decide +kernel), x11.fr u (by decide +kernel), x12.fr u (by decide +kernel), x13.fr u (by decide +kernel), q, x15.fr u (by decide +kernel), x16.fr u (by decide +kernel)⟩) (fun _ u _ => r3.fr u (by decide +kernel))
theorem st_worn (x y z : Int32) (h : MH) (r : Rel h) : StepR L scr (d + 40) 148 285 [vR 900011 0, vI x, vI y, vI z] [vR 900012 0, vI x, vI y, vI z] h := by
  obtain ⟨⟨x1, x2, x3, x4, x5, x6, x7, x8, x9, x10, x11, x12, x13, x14, x15, x16⟩, r2, r3, r4, r5, ⟨r6, r7, r8, r9⟩, r0⟩ := id r
  exact StepR.sc (call_worn (L := L) (scr := scr) (d := d) x y z h x16 x12) r
theorem st_old (x y : Int32) (h : MH) (r : Rel h) : StepR L scr (d + 40) 149 286 [vR 900011 0, vI x, vI y] [vR 900012 0, vI x, vI y] h := by
  obtain ⟨⟨x1, x2, x3, x4, x5, x6, x7, x8, x9, x10, x11, x12, x13, x14, x15, x16⟩, r2, r3, r4, r5, ⟨r6, r7, r8, r9⟩, r0⟩ := id r
  exact StepR.sc (call_old (L := L) (scr := scr) (d := d) x y h x16 x12) r
theorem st_barred (x y : Int32) (h : MH) (r : Rel h) : StepR L scr (d + 40) 173 327 [vR 900011 0, vI x, vI y] [vR 900012 0, vI x, vI y] h := by
  obtain ⟨⟨x1, x2, x3, x4, x5, x6, x7, x8, x9, x10, x11, x12, x13, x14, x15, x16⟩, r2, r3, r4, r5, ⟨r6, r7, r8, r9⟩, r0⟩ := id r
  exact StepR.sc (call_barred (L := L) (scr := scr) (d := d) x y h x16 x4 x5 x15) r
theorem st_differ (x y z : Int32) (h : MH) (r : Rel h) : StepR L scr (d + 40) 144 279 [vR 900011 0, vI x, vI y, vI z] [vR 900012 0, vI x, vI y, vI z] h := by
  obtain ⟨⟨x1, x2, x3, x4, x5, x6, x7, x8, x9, x10, x11, x12, x13, x14, x15, x16⟩, r2, r3, r4, r5, ⟨r6, r7, r8, r9⟩, r0⟩ := id r
  exact StepR.sc (call_differ (L := L) (scr := scr) (d := d) x y z h x16) r
theorem st_paint (x y z : Int32) (h : MH) (r : Rel h) : StepR L scr (d + 40) 165 315 [vR 900011 0, vI x, vI y, vI z] [vR 900012 0, vI x, vI y, vI z] h := by
  obtain ⟨⟨x1, x2, x3, x4, x5, x6, x7, x8, x9, x10, x11, x12, x13, x14, x15, x16⟩, r2, r3, r4, r5, ⟨r6, r7, r8, r9⟩, r0⟩ := id r
  exact StepR.of (call_paint (L := L) (scr := scr) (d := d) x y z h x13 x12) r (by decide +kernel : ∀ q, q ∈ WD → q.1 ∉ badS ∧ (q.2 = 0 ∨ q.1 ∉ tkAll.map Prod.fst)) (fun _ u q => ⟨x1.fr u (by decide +kernel), x2.fr u (by decide +kernel), x3.fr u (by decide +kernel), x4.fr u (by decide +kernel), x5.fr u (by decide +kernel), x6.fr u (by decide +kernel), x7.fr u (by decide +kernel), x8.fr u (by decide +kernel), x9.fr u (by decide +kernel), x10.fr u (by decide +kernel), x11.fr u (by decide +kernel), x12.fr u (by decide +kernel), q, x14.fr u (by decide +kernel), x15.fr u (by decide +kernel), x16.fr u (by decide +kernel)⟩) (fun _ u _ => r3.fr u (by decide +kernel))
theorem st_renew (x y : Int32) (h : MH) (r : Rel h) : StepR L scr (d + 40) 168 321 [vR 900011 0, vI x, vI y] [vR 900012 0, vI x, vI y] h := by
  obtain ⟨⟨x1, x2, x3, x4, x5, x6, x7, x8, x9, x10, x11, x12, x13, x14, x15, x16⟩, r2, r3, r4, r5, ⟨r6, r7, r8, r9⟩, r0⟩ := id r
  exact StepR.sc (call_renew (L := L) (scr := scr) (d := d) x y h x13 x12 x14) r
theorem st_painted (x y : Int32) (h : MH) (r : Rel h) : StepR L scr (d + 40) 166 319 [vR 900011 0, vI x, vI y] [vR 900012 0, vI x, vI y] h := by
  obtain ⟨⟨x1, x2, x3, x4, x5, x6, x7, x8, x9, x10, x11, x12, x13, x14, x15, x16⟩, r2, r3, r4, r5, ⟨r6, r7, r8, r9⟩, r0⟩ := id r
  exact StepR.sc (call_painted (L := L) (scr := scr) (d := d) x y h x13 x12) r
theorem st_tout (x y z : Int32) (h : MH) (r : Rel h) : StepR L scr (d + 40) 170 324 [vR 900011 0, vI x, vI y, vI z] [vR 900012 0, vI x, vI y, vI z] h := by
  obtain ⟨⟨x1, x2, x3, x4, x5, x6, x7, x8, x9, x10, x11, x12, x13, x14, x15, x16⟩, r2, r3, r4, r5, ⟨r6, r7, r8, r9⟩, r0⟩ := id r
  exact StepR.sc (call_tout (L := L) (scr := scr) (d := d) x y z h x8) r
theorem st_protect (x y z u : Int32) (h : MH) (r : Rel h) : StepR L scr (d + 40) 155 298 [vR 900011 0, vI x, vI y, vI z, vI u] [vR 900012 0, vI x, vI y, vI z, vI u] h := by
  obtain ⟨⟨x1, x2, x3, x4, x5, x6, x7, x8, x9, x10, x11, x12, x13, x14, x15, x16⟩, r2, r3, r4, r5, ⟨r6, r7, r8, r9⟩, r0⟩ := id r
  exact StepR.sc (call_protect (L := L) (scr := scr) (d := d) x y z u h x7) r
theorem st_guided (x : Int32) (h : MH) (r : Rel h) : StepR L scr (d + 40) 160 309 [vR 900011 0, vI x] [vR 900012 0, vI x] h := by
  obtain ⟨⟨x1, x2, x3, x4, x5, x6, x7, x8, x9, x10, x11, x12, x13, x14, x15, x16⟩, r2, r3, r4, r5, ⟨r6, r7, r8, r9⟩, r0⟩ := id r
  exact StepR.sc (call_guided (L := L) (scr := scr) (d := d) x h x10 x11) r
theorem st_pay (x : Int32) (h : MH) (r : Rel h) : StepR L scr (d + 40) 161 310 [vR 900011 0, vI x] [vR 900012 0, vI x] h := by
  obtain ⟨⟨x1, x2, x3, x4, x5, x6, x7, x8, x9, x10, x11, x12, x13, x14, x15, x16⟩, r2, r3, r4, r5, ⟨r6, r7, r8, r9⟩, r0⟩ := id r
  exact StepR.of (call_pay (L := L) (scr := scr) (d := d) x h x10 x11) r (by decide +kernel : ∀ q, q ∈ WG → q.1 ∉ badS ∧ (q.2 = 0 ∨ q.1 ∉ tkAll.map Prod.fst)) (fun _ u q => ⟨x1.fr u (by decide +kernel), x2.fr u (by decide +kernel), x3.fr u (by decide +kernel), x4.fr u (by decide +kernel), x5.fr u (by decide +kernel), x6.fr u (by decide +kernel), x7.fr u (by decide +kernel), x8.fr u (by decide +kernel), x9.fr u (by decide +kernel), q.1, q.2, x12.fr u (by decide +kernel), x13.fr u (by decide +kernel), x14.fr u (by decide +kernel), x15.fr u (by decide +kernel), x16.fr u (by decide +kernel)⟩) (fun _ u _ => r3.fr u (by decide +kernel))
theorem st_together (x y z u v : Int32) (h : MH) (r : Rel h) : StepR L scr (d + 40) 147 283 [vR 900011 0, vI x, vI y, vI z, vI u, vI v] [vR 900012 0, vI x, vI y, vI z, vI u, vI v] h := by
  obtain ⟨⟨x1, x2, x3, x4, x5, x6, x7, x8, x9, x10, x11, x12, x13, x14, x15, x16⟩, r2, r3, r4, r5, ⟨r6, r7, r8, r9⟩, r0⟩ := id r
  exact StepR.sc (call_together (L := L) (scr := scr) (d := d) x y z u v h x16) r
theorem st_fault (h : MH) (r : Rel h) : StepR L scr (d + 40) 126 231 [vR 900011 0] [vR 900012 0] h := by
  obtain ⟨⟨x1, x2, x3, x4, x5, x6, x7, x8, x9, x10, x11, x12, x13, x14, x15, x16⟩, r2, r3, r4, r5, ⟨r6, r7, r8, r9⟩, r0⟩ := id r
  exact StepR.sc (call_fault (L := L) (scr := scr) (d := d) h r4) r
theorem st_count (x : Int32) (h : MH) (r : Rel h) : StepR L scr (d + 40) 176 332 [vR 900011 0, vI x] [vR 900012 0, vI x] h := by
  obtain ⟨⟨x1, x2, x3, x4, x5, x6, x7, x8, x9, x10, x11, x12, x13, x14, x15, x16⟩, r2, r3, r4, r5, ⟨r6, r7, r8, r9⟩, r0⟩ := id r
  exact StepR.sc (call_count (L := L) (scr := scr) (d := d) x h r5 x12 x16 x2 x9 x10 x11 r3 x7 x8 x4 x5 x3) r
theorem st_feed (x y z u v : Int32) (h : MH) (r : Rel h) : StepR L scr (d + 40) 124 206 [vR 900011 0, vI x, vI y, vI z, vI u, vI v] [vR 900012 0, vI x, vI y, vI z, vI u, vI v] h := by
  obtain ⟨⟨x1, x2, x3, x4, x5, x6, x7, x8, x9, x10, x11, x12, x13, x14, x15, x16⟩, r2, r3, r4, r5, ⟨r6, r7, r8, r9⟩, r0⟩ := id r
  exact StepR.of (call_feed (L := L) (scr := scr) (d := d) x y z u v h r3) r (by decide +kernel : ∀ q, q ∈ STape → q.1 ∉ badS ∧ (q.2 = 0 ∨ q.1 ∉ tkAll.map Prod.fst)) (fun _ u _ => r.1.ag (Ag.of u (by decide +kernel))) (fun _ _ q => q)
theorem st_queue (x y z u : Int32) (h : MH) (r : Rel h) : StepR L scr (d + 40) 151 289 [vR 900011 0, vI x, vI y, vI z, vI u] [vR 900012 0, vI x, vI y, vI z, vI u] h := by
  obtain ⟨⟨x1, x2, x3, x4, x5, x6, x7, x8, x9, x10, x11, x12, x13, x14, x15, x16⟩, r2, r3, r4, r5, ⟨r6, r7, r8, r9⟩, r0⟩ := id r
  exact StepR.sc (call_queue (L := L) (scr := scr) (d := d) x y z u h x16 x12 x6) r
theorem st_boat (x : Int32) (h : MH) (r : Rel h) : StepR L scr (d + 40) 130 241 [vR 900011 0, vI x] [vR 900012 0, vI x] h := by
  obtain ⟨⟨x1, x2, x3, x4, x5, x6, x7, x8, x9, x10, x11, x12, x13, x14, x15, x16⟩, r2, r3, r4, r5, ⟨r6, r7, r8, r9⟩, r0⟩ := id r
  exact StepR.of (call_boatD (L := L) (scr := scr) (d := d) x h x12 x13 x16) r (by decide +kernel : ∀ q, q ∈ SBoat → q.1 ∉ badS ∧ (q.2 = 0 ∨ q.1 ∉ tkAll.map Prod.fst)) (fun _ u q => ⟨x1.fr u (by decide +kernel), x2.fr u (by decide +kernel), x3.fr u (by decide +kernel), x4.fr u (by decide +kernel), x5.fr u (by decide +kernel), x6.fr u (by decide +kernel), x7.fr u (by decide +kernel), x8.fr u (by decide +kernel), x9.fr u (by decide +kernel), x10.fr u (by decide +kernel), x11.fr u (by decide +kernel), q.1, q.2.1, x14.fr u (by decide +kernel), x15.fr u (by decide +kernel), q.2.2⟩) (fun _ u _ => r3.fr u (by decide +kernel))
theorem st_rule (x y : Int32) (h : MH) (r : Rel h) : StepR L scr (d + 40) 127 234 [vR 900011 0, vI x, vI y] [vR 900012 0, vI x, vI y] h := by
  obtain ⟨⟨x1, x2, x3, x4, x5, x6, x7, x8, x9, x10, x11, x12, x13, x14, x15, x16⟩, r2, r3, r4, r5, ⟨r6, r7, r8, r9⟩, r0⟩ := id r
  exact StepR.sc (call_rule (L := L) (scr := scr) (d := d) x y h r6) r
theorem st_keep (x y z : Int32) (h : MH) (r : Rel h) : StepR L scr (d + 40) 153 295 [vR 900011 0, vI x, vI y, vI z] [vR 900012 0, vI x, vI y, vI z] h := by
  obtain ⟨⟨x1, x2, x3, x4, x5, x6, x7, x8, x9, x10, x11, x12, x13, x14, x15, x16⟩, r2, r3, r4, r5, ⟨r6, r7, r8, r9⟩, r0⟩ := id r
  exact StepR.j (call_keep (L := L) (scr := scr) (d := d) x y z h x7) r
theorem st_least (y z : Int32) (h : MH) (r : Rel h) : StepR L scr (d + 40) 154 296 [vR 900011 0, vI y, vI z] [vR 900012 0, vI y, vI z] h := by
  obtain ⟨⟨x1, x2, x3, x4, x5, x6, x7, x8, x9, x10, x11, x12, x13, x14, x15, x16⟩, r2, r3, r4, r5, ⟨r6, r7, r8, r9⟩, r0⟩ := id r
  exact StepR.j (call_least (L := L) (scr := scr) (d := d) y z h x7) r
theorem st_rolled (x : Int32) (h : MH) (r : Rel h) : StepR L scr (d + 40) 157 302 [vR 900011 0, vI x] [vR 900012 0, vI x] h := by
  obtain ⟨⟨x1, x2, x3, x4, x5, x6, x7, x8, x9, x10, x11, x12, x13, x14, x15, x16⟩, r2, r3, r4, r5, ⟨r6, r7, r8, r9⟩, r0⟩ := id r
  exact StepR.sc (call_rolled (L := L) (scr := scr) (d := d) x h x9) r
theorem st_free (x y : Int32) (h : MH) (r : Rel h) : StepR L scr (d + 40) 131 254 [vR 900011 0, vI x, vI y] [vR 900012 0, vI x, vI y] h := by
  obtain ⟨⟨x1, x2, x3, x4, x5, x6, x7, x8, x9, x10, x11, x12, x13, x14, x15, x16⟩, r2, r3, r4, r5, ⟨r6, r7, r8, r9⟩, r0⟩ := id r
  exact StepR.sc (call_free (L := L) (scr := scr) (d := d) x y h x16 x12 x1 x2 x3 r6 r8) r
theorem st_out (x y z w : Int32) (h : MH) (r : Rel h) : StepR L scr (d + 40) 132 256 [vR 900011 0, vI x, vI y, vI z, vI w] [vR 900012 0, vI x, vI y, vI z, vI w] h := by
  obtain ⟨⟨x1, x2, x3, x4, x5, x6, x7, x8, x9, x10, x11, x12, x13, x14, x15, x16⟩, r2, r3, r4, r5, ⟨r6, r7, r8, r9⟩, r0⟩ := id r
  exact StepR.of (call_out (L := L) (scr := scr) (d := d) x y z w h x16 x15 x12 x1 x2 x3 r6 r8) r (by decide +kernel : ∀ q, q ∈ (WOut ++ Scr) → q.1 ∉ badS ∧ (q.2 = 0 ∨ q.1 ∉ tkAll.map Prod.fst)) (fun _ u q => ⟨x1.fr u (by decide +kernel), x2.fr u (by decide +kernel), x3.fr u (by decide +kernel), x4.fr u (by decide +kernel), x5.fr u (by decide +kernel), x6.fr u (by decide +kernel), x7.fr u (by decide +kernel), x8.fr u (by decide +kernel), x9.fr u (by decide +kernel), x10.fr u (by decide +kernel), x11.fr u (by decide +kernel), x12.fr u (by decide +kernel), x13.fr u (by decide +kernel), x14.fr u (by decide +kernel), q.2, q.1⟩) (fun _ u _ => r3.fr u (by decide +kernel))
theorem st_bill (x y z : Int32) (h : MH) (r : Rel h) : StepR L scr (d + 40) 141 274 [vR 900011 0, vI x, vI y, vI z] [vR 900012 0, vI x, vI y, vI z] h := by
  obtain ⟨⟨x1, x2, x3, x4, x5, x6, x7, x8, x9, x10, x11, x12, x13, x14, x15, x16⟩, r2, r3, r4, r5, ⟨r6, r7, r8, r9⟩, r0⟩ := id r
  exact StepR.sc (call_bill (L := L) (scr := scr) (d := d) x y z h x16 x12 x1 x2 x3 r6 r7 r8) r
theorem st_takings (x y : Int32) (h : MH) (r : Rel h) : StepR L scr (d + 40) 143 277 [vR 900011 0, vI x, vI y] [vR 900012 0, vI x, vI y] h := by
  obtain ⟨⟨x1, x2, x3, x4, x5, x6, x7, x8, x9, x10, x11, x12, x13, x14, x15, x16⟩, r2, r3, r4, r5, ⟨r6, r7, r8, r9⟩, r0⟩ := id r
  exact StepR.sc (call_takings (L := L) (scr := scr) (d := d) x y h x16 x12 x1 x2 x3 r6 r7 r8) r
theorem st_cost (x y : Int32) (h : MH) (r : Rel h) : StepR L scr (d + 40) 145 280 [vR 900011 0, vI x, vI y] [vR 900012 0, vI x, vI y] h := by
  obtain ⟨⟨x1, x2, x3, x4, x5, x6, x7, x8, x9, x10, x11, x12, x13, x14, x15, x16⟩, r2, r3, r4, r5, ⟨r6, r7, r8, r9⟩, r0⟩ := id r
  exact StepR.sc (call_cost (L := L) (scr := scr) (d := d) x y h x16 x12 x1 x2 x3 r6 r7 r8) r
theorem st_worst (x y z : Int32) (h : MH) (r : Rel h) : StepR L scr (d + 40) 146 281 [vR 900011 0, vI x, vI y, vI z] [vR 900012 0, vI x, vI y, vI z] h := by
  obtain ⟨⟨x1, x2, x3, x4, x5, x6, x7, x8, x9, x10, x11, x12, x13, x14, x15, x16⟩, r2, r3, r4, r5, ⟨r6, r7, r8, r9⟩, r0⟩ := id r
  exact StepR.sc (call_worst (L := L) (scr := scr) (d := d) x y z h x16 x12 x1 x2 x3 r6 r7 r8) r
theorem st_image (h : MH) (r : Rel h) : StepR L scr (d + 40) 174 330 [vR 900011 0] [vR 900012 0] h := by
  obtain ⟨⟨x1, x2, x3, x4, x5, x6, x7, x8, x9, x10, x11, x12, x13, x14, x15, x16⟩, r2, r3, r4, r5, ⟨r6, r7, r8, r9⟩, r0⟩ := id r
  obtain ⟨a, h1, h2, e1, e2, g, f⟩ := call_image (L := L) (scr := scr) (d := d) h r.1 r2
  exact ⟨a, h1, h2, e1, e2, r.fi f g, f.2.2.1, f.2.2.2.1⟩
theorem st_restore (y : Int32) (h : MH) (r : Rel h) : StepR L scr (d + 40) 175 331 [vR 900011 0, vI y] [vR 900012 0, vI y] h := by
  obtain ⟨⟨x1, x2, x3, x4, x5, x6, x7, x8, x9, x10, x11, x12, x13, x14, x15, x16⟩, r2, r3, r4, r5, ⟨r6, r7, r8, r9⟩, r0⟩ := id r
  obtain ⟨a, h1, h2, e1, e2, i, g, f⟩ := call_restore (L := L) (scr := scr) (d := d) y h r.1 r2
  exact ⟨a, h1, h2, e1, e2, r.ft f i g, by unfold hc; rw [f.2]; omega, by unfold hs; rw [f.2]; omega⟩
theorem st_law (x y : Int32) (h : MH) (r : Rel h) : StepR L scr (d + 40) 125 230 [vR 900011 0, vI x, vI y] [vR 900012 0, vI x, vI y] h := by
  obtain ⟨⟨x1, x2, x3, x4, x5, x6, x7, x8, x9, x10, x11, x12, x13, x14, x15, x16⟩, r2, r3, r4, r5, ⟨r6, r7, r8, r9⟩, r0⟩ := id r
  obtain ⟨a, h1, h2, e1, e2, p, f⟩ := call_law (L := L) (scr := scr) (d := d) x y h r3 r4 r6 r7 r8 r9 r0 r5
  exact ⟨a, h1, h2, e1, e2, r.fl f p, by have := f.2.2.1; omega, by have := f.2.2.2.1; omega⟩
end Steps
