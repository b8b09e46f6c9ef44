/-! IMAGES: the reference's rows laid one behind another -/
def layF (p k : Nat) (f r : Nat → Int32) : Nat → Int32 := fun c => if p ≤ c ∧ c < p + k then f (c - p) else r c
theorem layF_0 {p : Nat} {f r : Nat → Int32} : layF p 0 f r = r := by funext c; exact if_neg (by omega)
theorem layF_s {p k : Nat} {f r : Nat → Int32} : up (layF p k f r) (p + k) (f k) = layF p (k + 1) f r := by
  funext c
  unfold up layF
  by_cases e : c = p + k
  · rw [if_pos e, if_pos (by omega), show c - p = k by omega]
  · rw [if_neg e]
    by_cases e2 : p ≤ c ∧ c < p + k
    · rw [if_pos e2, if_pos (by omega)]
    · rw [if_neg e2, if_neg (by omega)]
def totL : List (Nat × Nat) → Nat
  | [] => 0
  | q :: r => q.2 + totL r
/-- segments of a row hold what v says -/
def Segs (v : Nat → Nat → Int32) : List (Nat × Nat) → Nat → (Nat → Int32) → Prop
  | [], _, _ => True
  | q :: r, p, f => (∀ c, c < q.2 → f (p + c) = v q.1 c) ∧ Segs v r (p + q.2) f
theorem Segs.cg {v : Nat → Nat → Int32} : ∀ {l : List (Nat × Nat)} {p : Nat} {f g : Nat → Int32}, (∀ c, p ≤ c → c < p + totL l → g c = f c) → Segs v l p f → Segs v l p g
  | [], _, _, _, _, _ => trivial
  | q :: r, p, f, g, h, s => ⟨fun c hc => by rw [h (p + c) (by omega) (by show p + c < p + (q.2 + totL r); omega)]; exact s.1 c hc, s.2.cg (fun c h1 h2 => h c (by omega) (by show c < p + (q.2 + totL r); omega))⟩
theorem Segs.cv {v w : Nat → Nat → Int32} : ∀ {l : List (Nat × Nat)} {p : Nat} {f : Nat → Int32}, (∀ q, q ∈ l → ∀ c, c < q.2 → w q.1 c = v q.1 c) → Segs v l p f → Segs w l p f
  | [], _, _, _, _ => trivial
  | q :: r, p, f, h, s => ⟨fun c hc => by rw [h q List.mem_cons_self c hc]; exact s.1 c hc, s.2.cv (fun x hx => h x (List.mem_cons_of_mem _ hx))⟩
section Lays
variable {L : Nat} {scr : Nat → Int32} {d : Nat}
theorem c_M_lays {s N p : Nat} {g : MH} (hs : isRow s 0 = true) (hN : N ≤ lenOf s) (hn : s ≠ 1394012600) (hl : lenOf s < 2 ^ 31) (hp : hI g 1393 0 0 = nI p) (hpN : p + N ≤ 12600) : E L scr (d + 1) 328 [vR 900012 0, vR s 0, vI (nI N)] g = some (none, sI (withR g [(1394012600, 0, layF p N (hI g s 0) (hI g 1394012600 0))]) 1393 0 0 (nI (p + N))) := by
  refine r_M_lays _ _ _ _ _ (Sm.step (t_M_lays_0 ..) ?_)
  have key := Sm.for (L := L) (scr := scr) (d := d) (bs := B_M_lays) (cs := C_M_lays) (t := 1) (lo := fun k => [some (vR 900012 0), some (vR s 0), some (vI (nI N)), some (vI (nI k))]) (hh := fun k => withR g [(1394012600, 0, layF p k (hI g s 0) (hI g 1394012600 0))]) (r := (none, sI (withR g [(1394012600, 0, layF p N (hI g s 0) (hI g 1394012600 0))]) 1393 0 0 (nI (p + N)))) N (fun k hk => by
    rw [t_M_lays_1, if_neg (nI_ge hk (by omega)), rd_ok (N := lenOf s) hs rfl (oob_nI (by omega) hl), ix_nI (by omega), withR_miss (fun z => hn z.1), withR_nil, withR_miss (by decide), withR_nil, hp, nI_add, wr_M_image (oob_nI (by omega) (by decide)), ix_nI (by omega), withR_set, layF_s, nI_1]) (Sm.ret (by
    rw [t_M_lays_1, if_pos (nI_le (Nat.le_refl _) (by omega)), withR_miss (by decide), withR_nil, hp, nI_add]))
  rw [layF_0, withR_id (by intro q hq; rw [List.mem_singleton] at hq; subst hq; rfl)] at key
  exact key
/-- a run of rows laid -/
def lysT (cal : Cal) : List (Nat × Nat) → MH → (MH → Option Exit) → Option Exit
  | [], h, k => k h
  | q :: r, h, k => clV (cal 328 [vR 900012 0, vR q.1 0, vI (nI q.2)] h) (fun h1 => lysT cal r h1 k)
abbrev RowsOk (l : List (Nat × Nat)) : Prop := ∀ q, q ∈ l → isRow q.1 0 = true ∧ q.2 ≤ lenOf q.1 ∧ lenOf q.1 < 100000 ∧ q.1 ≠ 1394012600 ∧ q.1 ≠ 1393
theorem lys_ok : ∀ (l : List (Nat × Nat)) (p : Nat) (g : MH), RowsOk l → hI g 1393 0 0 = nI p → p + totL l ≤ 12600 → ∃ g', (∀ k, lysT (E L scr (d + 1)) l g k = k g') ∧ Upd [(1393, 0), (1394012600, 0)] g g' ∧ (∀ c, c < p ∨ p + totL l ≤ c → hI g' 1394012600 0 c = hI g 1394012600 0 c) ∧ Segs (fun s => hI g s 0) l p (hI g' 1394012600 0)
  | [], p, g, _, _, _ => ⟨g, fun _ => rfl, Upd.rf _ g, fun _ _ => rfl, trivial⟩
  | q :: r, p, g, hr, hp, ht => by
    obtain ⟨a1, a2, a3, a4, a5⟩ := hr q List.mem_cons_self
    have ht : p + (q.2 + totL r) ≤ 12600 := ht
    obtain ⟨g1, hg1⟩ : ∃ g1, g1 = sI (withR g [(1394012600, 0, layF p q.2 (hI g q.1 0) (hI g 1394012600 0))]) 1393 0 0 (nI (p + q.2)) := ⟨_, rfl⟩
    have e1 := c_M_lays (L := L) (scr := scr) (d := d) (s := q.1) (N := q.2) (p := p) (g := g) a1 a2 a4 (by omega) hp (by omega)
    rw [← hg1] at e1
    have p1 : hI g1 1393 0 0 = nI (p + q.2) := by rw [hg1, hI_rs, up_s]
    have i1 : hI g1 1394012600 0 = layF p q.2 (hI g q.1 0) (hI g 1394012600 0) := by rw [hg1, hI_rn (by decide), withR_hit]
    have o1 : ∀ a b, a ≠ 1394012600 → a ≠ 1393 → hI g1 a b = hI g a b := fun a b h1 h2 => by rw [hg1, hI_rn (fun z => h2 z.1), withR_miss (fun z => h1 z.1), withR_nil]
    have u1 : Upd [(1393, 0), (1394012600, 0)] g g1 := by
      rw [hg1]
      exact (withR_Upd (fun q hq => by rw [List.mem_singleton] at hq; subst hq; exact List.mem_cons_of_mem _ List.mem_cons_self)).sI (by decide)
    obtain ⟨g2, e2, u2, c2, s2⟩ := lys_ok r (p + q.2) g1 (fun x hx => hr x (List.mem_cons_of_mem _ hx)) p1 (by omega)
    refine ⟨g2, fun k => ?_, u1.tr u2, fun c hc => ?_, ⟨fun c hc => ?_, ?_⟩⟩
    · show clV (E L scr (d + 1) 328 [vR 900012 0, vR q.1 0, vI (nI q.2)] g) (fun h1 => lysT (E L scr (d + 1)) r h1 k) = k g2
      rw [e1, clV_ok, e2]
    · have hc : c < p ∨ p + (q.2 + totL r) ≤ c := hc
      rw [c2 c (by omega), i1]
      exact if_neg (by omega)
    · rw [c2 (p + c) (by omega), i1]
      show (if p ≤ p + c ∧ p + c < p + q.2 then hI g q.1 0 (p + c - p) else _) = _
      rw [if_pos (by omega), Nat.add_sub_cancel_left]
    · refine s2.cv (fun x hx c _ => ?_)
      obtain ⟨-, -, -, b4, b5⟩ := hr x (List.mem_cons_of_mem _ hx)
      show hI g x.1 0 c = hI g1 x.1 0 c
      rw [o1 x.1 0 b4 b5]
theorem c_M_fetches {s N p : Nat} {g : MH} (hs : isRow s 0 = true) (hN : N ≤ lenOf s) (hn : s ≠ 1394012600) (hn2 : s ≠ 1393) (hl : lenOf s < 2 ^ 31) (hp : hI g 1393 0 0 = nI p) (hpN : p + N ≤ 12600) : E L scr (d + 1) 329 [vR 900012 0, vR s 0, vI (nI N)] g = some (none, sI (withR g [(s, 0, cpN N (fun c => hI g 1394012600 0 (p + c)) (hI g s 0))]) 1393 0 0 (nI (p + N))) := by
  have cs : ∀ k, up (cpN k (fun c => hI g 1394012600 0 (p + c)) (hI g s 0)) k (hI g 1394012600 0 (p + k)) = cpN (k + 1) (fun c => hI g 1394012600 0 (p + c)) (hI g s 0) := fun k => by
    funext c
    unfold up cpN
    by_cases e : c = k
    · rw [if_pos e, if_pos (by omega), e]
    · rw [if_neg e]
      by_cases e2 : c < k
      · rw [if_pos e2, if_pos (by omega)]
      · rw [if_neg e2, if_neg (by omega)]
  have c0 : cpN 0 (fun c => hI g 1394012600 0 (p + c)) (hI g s 0) = hI g s 0 := by funext c; exact if_neg (Nat.not_lt_zero c)
  refine r_M_fetches _ _ _ _ _ (Sm.step (t_M_fetches_0 ..) ?_)
  have key := Sm.for (L := L) (scr := scr) (d := d) (bs := B_M_fetches) (cs := C_M_fetches) (t := 1) (lo := fun k => [some (vR 900012 0), some (vR s 0), some (vI (nI N)), some (vI (nI k))]) (hh := fun k => withR g [(s, 0, cpN k (fun c => hI g 1394012600 0 (p + c)) (hI g s 0))]) (r := (none, sI (withR g [(s, 0, cpN N (fun c => hI g 1394012600 0 (p + c)) (hI g s 0))]) 1393 0 0 (nI (p + N)))) N (fun k hk => by
    rw [t_M_fetches_1, if_neg (nI_ge hk (by omega)), withR_miss (fun z => hn2 z.1.symm), withR_nil, hp, nI_add, rd_M_image (oob_nI (by omega) (by decide)), ix_nI (by omega), withR_miss (fun z => hn z.1.symm), withR_nil, wr_ok (N := lenOf s) hs rfl (oob_nI (by omega) hl), ix_nI (by omega), withR_set, cs, nI_1]) (Sm.ret (by
    rw [t_M_fetches_1, if_pos (nI_le (Nat.le_refl _) (by omega)), withR_miss (fun z => hn2 z.1.symm), withR_nil, hp, nI_add]))
  rw [c0, withR_id (by intro q hq; rw [List.mem_singleton] at hq; subst hq; rfl)] at key
  exact key
def fchT (cal : Cal) : List (Nat × Nat) → MH → (MH → Option Exit) → Option Exit
  | [], h, k => k h
  | q :: r, h, k => clV (cal 329 [vR 900012 0, vR q.1 0, vI (nI q.2)] h) (fun h1 => fchT cal r h1 k)
theorem fch_ok {v : Nat → Nat → Int32} : ∀ (l : List (Nat × Nat)) (p : Nat) (g : MH), RowsOk l → (l.map Prod.fst).Nodup → hI g 1393 0 0 = nI p → p + totL l ≤ 12600 → Segs v l p (hI g 1394012600 0) → ∃ g', (∀ k, fchT (E L scr (d + 1)) l g k = k g') ∧ g'.2 = g.2 ∧ hI g' 1393 0 0 = nI (p + totL l) ∧ (∀ a b, (a ≠ 1393 ∨ b ≠ 0) → (a ∉ l.map Prod.fst ∨ b ≠ 0) → hI g' a b = hI g a b) ∧ ∀ q, q ∈ l → hI g' q.1 0 = cpN q.2 (v q.1) (hI g q.1 0)
  | [], p, g, _, _, hp, _, _ => ⟨g, fun _ => rfl, rfl, by rw [hp]; rfl, fun _ _ _ _ => rfl, fun q hq => by cases hq⟩
  | q :: r, p, g, hr, nd, hp, ht, sg => by
    obtain ⟨a1, a2, a3, a4, a5⟩ := hr q List.mem_cons_self
    rw [List.map_cons, List.nodup_cons] at nd
    have ht : p + (q.2 + totL r) ≤ 12600 := ht
    obtain ⟨g1, hg1⟩ : ∃ g1, g1 = sI (withR g [(q.1, 0, cpN q.2 (fun c => hI g 1394012600 0 (p + c)) (hI g q.1 0))]) 1393 0 0 (nI (p + q.2)) := ⟨_, rfl⟩
    have e1 := c_M_fetches (L := L) (scr := scr) (d := d) (s := q.1) (N := q.2) (p := p) (g := g) a1 a2 a4 a5 (by omega) hp (by omega)
    rw [← hg1] at e1
    have p1 : hI g1 1393 0 0 = nI (p + q.2) := by rw [hg1, hI_rs, up_s]
    have i1 : hI g1 q.1 0 = cpN q.2 (v q.1) (hI g q.1 0) := by
      rw [hg1, hI_rn (fun z => a5 z.1), withR_hit]
      funext c
      unfold cpN
      by_cases e : c < q.2
      · rw [if_pos e, if_pos e]; exact sg.1 c e
      · rw [if_neg e, if_neg e]
    have o1 : ∀ a b, (a ≠ 1393 ∨ b ≠ 0) → (a ≠ q.1 ∨ b ≠ 0) → hI g1 a b = hI g a b := fun a b h1 h2 => by
      rw [hg1, hI_rn (fun z => h1.elim (fun y => y z.1) (fun y => y z.2)), withR_miss (fun z => h2.elim (fun y => y z.1) (fun y => y z.2)), withR_nil]
    obtain ⟨g2, e2, w2, p2, f2, r2⟩ := fch_ok r (p + q.2) g1 (fun x hx => hr x (List.mem_cons_of_mem _ hx)) nd.2 p1 (by omega) (by rw [o1 1394012600 0 (Or.inl (by decide)) (Or.inl (fun z => a4 z.symm))]; exact sg.2)
    refine ⟨g2, fun k => ?_, by rw [w2, hg1]; rfl, by rw [p2]; exact congrArg nI (by show p + q.2 + totL r = p + (q.2 + totL r); omega), fun a b h1 h2 => ?_, fun x hx => ?_⟩
    · show clV (E L scr (d + 1) 329 [vR 900012 0, vR q.1 0, vI (nI q.2)] g) (fun h1 => fchT (E L scr (d + 1)) r h1 k) = k g2
      rw [e1, clV_ok, e2]
    · rw [List.map_cons] at h2
      rw [f2 a b h1 (h2.imp (fun w z => w (List.mem_cons_of_mem _ z)) id), o1 a b h1 (h2.imp (fun w z => w (by rw [z]; exact List.mem_cons_self)) id)]
    · rcases List.mem_cons.mp hx with e | e
      · subst e
        rw [f2 x.1 0 (Or.inl a5) (Or.inl nd.1), i1]
      · have ne : x.1 ≠ q.1 := fun z => nd.1 (by rw [← z]; exact List.mem_map.mpr ⟨x, e, rfl⟩)
        obtain ⟨-, -, -, -, b5⟩ := hr x (List.mem_cons_of_mem _ e)
        rw [r2 x e, o1 x.1 0 (Or.inl b5) (Or.inl ne)]
end Lays
