/-! each method's instructions are as the table says (printed by wip/whole/emitmt.py) -/
def ckL (own : String) (ini law : Bool) (nL : Nat) (cc : ByteArray) (mt : Nat → Option MT) (bs : List Blk) : List MI → Nat → Bool
  | [], _ => true
  | i :: is, pc => match i with
    | (ins, _, a, _, _, _, _) => match ins with
      | .goto _ | .tableswitch _ _ _ _ | .ireturn | .lreturn | .areturn | .return_ => false
      | .if_icmp q off => decide (decode cc pc = .ok (.if_icmp q off, 3)) && (tgB bs a pc off && ckL own ini law nL cc mt bs is (pc + 3))
      | .ifCond q off => decide (decode cc pc = .ok (.ifCond q off, 3)) && (tgB bs a pc off && ckL own ini law nL cc mt bs is (pc + 3))
      | .ifnull off => decide (decode cc pc = .ok (.ifnull off, 3)) && (tgB bs a pc off && ckL own ini law nL cc mt bs is (pc + 3))
      | .ifnonnull off => decide (decode cc pc = .ok (.ifnonnull off, 3)) && (tgB bs a pc off && ckL own ini law nL cc mt bs is (pc + 3))
      | _ => ckI own ini law nL cc mt pc i && ckL own ini law nL cc mt bs is (pc + iln ins)
def plen : List MI → Nat
  | [] => 0
  | i :: is => iln i.1 + plen is
theorem ckS_app {own : String} {ini law : Bool} {nL : Nat} {cc : ByteArray} {mt : Nat → Option MT} {bs : List Blk} {ret : Option FieldType} {nb : Nat} {js : List MI} : ∀ {is : List MI} {pc : Nat}, ckL own ini law nL cc mt bs is pc = true → ckS own ini law nL cc mt bs ret js (pc + plen is) nb = true → ckS own ini law nL cc mt bs ret (is ++ js) pc nb = true
  | [], _, _, h2 => h2
  | (ins, cst, a, b, c, dd, ts) :: is, pc, h1, h2 => by
    have br : ∀ {A B : Bool}, (A && (B && ckL own ini law nL cc mt bs is (pc + 3))) = true → ckS own ini law nL cc mt bs ret js (pc + (3 + plen is)) nb = true → (A && (B && ckS own ini law nL cc mt bs ret (is ++ js) (pc + 3) nb)) = true := by
      intro A B q q2
      rw [Bool.and_eq_true, Bool.and_eq_true] at q
      rw [q.1, q.2.1, ckS_app q.2.2 (by rw [Nat.add_assoc]; exact q2)]
      rfl
    have gn : (ckI own ini law nL cc mt pc (ins, cst, a, b, c, dd, ts) && ckL own ini law nL cc mt bs is (pc + iln ins)) = true → (ckI own ini law nL cc mt pc (ins, cst, a, b, c, dd, ts) && ckS own ini law nL cc mt bs ret (is ++ js) (pc + iln ins) nb) = true := by
      intro q
      rw [Bool.and_eq_true] at q
      rw [q.1, ckS_app q.2 (by rw [Nat.add_assoc]; exact h2)]
      rfl
    cases ins with
    | goto _ => exact absurd (show false = true from h1) (by decide)
    | tableswitch _ _ _ _ => exact absurd (show false = true from h1) (by decide)
    | ireturn => exact absurd (show false = true from h1) (by decide)
    | lreturn => exact absurd (show false = true from h1) (by decide)
    | areturn => exact absurd (show false = true from h1) (by decide)
    | return_ => exact absurd (show false = true from h1) (by decide)
    | if_icmp q off => exact br h1 h2
    | ifCond q off => exact br h1 h2
    | ifnull off => exact br h1 h2
    | ifnonnull off => exact br h1 h2
    | _ => exact gn h1
theorem ckS_cut {own : String} {ini law : Bool} {nL : Nat} {cc : ByteArray} {mt : Nat → Option MT} {bs : List Blk} {ret : Option FieldType} {nb : Nat} {is : List MI} {pc pc2 : Nat} (n : Nat) (h1 : ckL own ini law nL cc mt bs (is.take n) pc = true) (hp : pc + plen (is.take n) = pc2) (h2 : ckS own ini law nL cc mt bs ret (is.drop n) pc2 nb = true) : ckS own ini law nL cc mt bs ret is pc nb = true := by
  subst hp
  have := ckS_app h1 h2
  rwa [List.take_append_drop] at this
def blkI (bs : List Blk) (i : Nat) : List MI := (bs.getD i (0, [], 0)).2.1
set_option maxRecDepth 100000 in
set_option maxHeartbeats 4000000 in
theorem k_Bill_init : ckM e_Bill_init = true := by decide +kernel
set_option maxRecDepth 100000 in
set_option maxHeartbeats 4000000 in
theorem k_Bill_drawPrice : ckM e_Bill_drawPrice = true := by decide +kernel
set_option maxRecDepth 100000 in
set_option maxHeartbeats 4000000 in
theorem k_Bill_draw : ckM e_Bill_draw = true := by decide +kernel
set_option maxRecDepth 100000 in
set_option maxHeartbeats 4000000 in
theorem k_Bill_begun : ckM e_Bill_begun = true := by decide +kernel
set_option maxRecDepth 100000 in
set_option maxHeartbeats 4000000 in
theorem k_Bill_raised : ckM e_Bill_raised = true := by decide +kernel
set_option maxRecDepth 100000 in
set_option maxHeartbeats 4000000 in
theorem k_Bill_wetCoin : ckM e_Bill_wetCoin = true := by decide +kernel
set_option maxRecDepth 100000 in
set_option maxHeartbeats 4000000 in
theorem k_Bill_addRain : ckM e_Bill_addRain = true := by decide +kernel
set_option maxRecDepth 100000 in
set_option maxHeartbeats 4000000 in
theorem k_Bill_owed : ckM e_Bill_owed = true := by decide +kernel
set_option maxRecDepth 100000 in
set_option maxHeartbeats 4000000 in
theorem k_Bill_look : ckM e_Bill_look = true := by decide +kernel
set_option maxRecDepth 100000 in
set_option maxHeartbeats 4000000 in
theorem k_Book_init : ckM e_Book_init = true := by decide +kernel
set_option maxRecDepth 100000 in
theorem kc_Book_take_0_2 : ckS "PuntYard$Book" false false 2 prog_3_method_2_code mtb B_Book_take (Option.none : Option Jvm.ClassFile.FieldType) ((blkI B_Book_take 0).drop 100) 192 1 = true := by decide +kernel
set_option maxRecDepth 100000 in
theorem kl_Book_take_0_1 : ckL "PuntYard$Book" false false 2 prog_3_method_2_code mtb B_Book_take (((blkI B_Book_take 0).drop 50).take 50) 95 = true := by decide +kernel
set_option maxRecDepth 100000 in
theorem kp_Book_take_0_1 : 95 + plen (((blkI B_Book_take 0).drop 50).take 50) = 192 := by decide +kernel
theorem kc_Book_take_0_1 : ckS "PuntYard$Book" false false 2 prog_3_method_2_code mtb B_Book_take (Option.none : Option Jvm.ClassFile.FieldType) ((blkI B_Book_take 0).drop 50) 95 1 = true := ckS_cut 50 kl_Book_take_0_1 kp_Book_take_0_1 (by rw [List.drop_drop]; exact kc_Book_take_0_2)
set_option maxRecDepth 100000 in
theorem kl_Book_take_0_0 : ckL "PuntYard$Book" false false 2 prog_3_method_2_code mtb B_Book_take (((blkI B_Book_take 0).drop 0).take 50) 0 = true := by decide +kernel
set_option maxRecDepth 100000 in
theorem kp_Book_take_0_0 : 0 + plen (((blkI B_Book_take 0).drop 0).take 50) = 95 := by decide +kernel
theorem kc_Book_take_0_0 : ckS "PuntYard$Book" false false 2 prog_3_method_2_code mtb B_Book_take (Option.none : Option Jvm.ClassFile.FieldType) ((blkI B_Book_take 0).drop 0) 0 1 = true := ckS_cut 50 kl_Book_take_0_0 kp_Book_take_0_0 (by rw [List.drop_drop]; exact kc_Book_take_0_1)
theorem kb_Book_take_0 : ckS "PuntYard$Book" false false 2 prog_3_method_2_code mtb B_Book_take (Option.none : Option Jvm.ClassFile.FieldType) (blkI B_Book_take 0) 0 1 = true := kc_Book_take_0_0
set_option maxRecDepth 100000 in
theorem k_Book_take : ckM e_Book_take = true := by
  have h : ∀ b ∈ B_Book_take, ckS "PuntYard$Book" false false 2 prog_3_method_2_code mtb B_Book_take (Option.none : Option Jvm.ClassFile.FieldType) b.2.1 b.1 b.2.2 = true := List.forall_mem_cons.mpr ⟨kb_Book_take_0, fun _ h => absurd h List.not_mem_nil⟩
  unfold ckM
  rw [Bool.and_eq_true, Bool.and_eq_true]
  exact ⟨by decide +kernel, rfl, List.all_eq_true.mpr h⟩
set_option maxRecDepth 100000 in
set_option maxHeartbeats 4000000 in
theorem k_Book_addBoat : ckM e_Book_addBoat = true := by decide +kernel
set_option maxRecDepth 100000 in
set_option maxHeartbeats 4000000 in
theorem k_Book_hasRoom : ckM e_Book_hasRoom = true := by decide +kernel
set_option maxRecDepth 100000 in
set_option maxHeartbeats 4000000 in
theorem k_Book_addHire : ckM e_Book_addHire = true := by decide +kernel
set_option maxRecDepth 100000 in
set_option maxHeartbeats 4000000 in
theorem k_Book_tell : ckM e_Book_tell = true := by decide +kernel
set_option maxRecDepth 100000 in
set_option maxHeartbeats 4000000 in
theorem k_Book_look : ckM e_Book_look = true := by decide +kernel
set_option maxRecDepth 100000 in
set_option maxHeartbeats 4000000 in
theorem k_Book_dayOf : ckM e_Book_dayOf = true := by decide +kernel
set_option maxRecDepth 100000 in
set_option maxHeartbeats 4000000 in
theorem k_Book_kindOfHire : ckM e_Book_kindOfHire = true := by decide +kernel
set_option maxRecDepth 100000 in
set_option maxHeartbeats 4000000 in
theorem k_Book_nextOut : ckM e_Book_nextOut = true := by decide +kernel
set_option maxRecDepth 100000 in
set_option maxHeartbeats 4000000 in
theorem k_Book_reachesOfPole : ckM e_Book_reachesOfPole = true := by decide +kernel
set_option maxRecDepth 100000 in
set_option maxHeartbeats 4000000 in
theorem k_Demand_init : ckM e_Demand_init = true := by decide +kernel
set_option maxRecDepth 100000 in
set_option maxHeartbeats 4000000 in
theorem k_Demand_take : ckM e_Demand_take = true := by decide +kernel
set_option maxRecDepth 100000 in
set_option maxHeartbeats 4000000 in
theorem k_Demand_isWhole : ckM e_Demand_isWhole = true := by decide +kernel
set_option maxRecDepth 100000 in
set_option maxHeartbeats 4000000 in
theorem k_Demand_wanted : ckM e_Demand_wanted = true := by decide +kernel
set_option maxRecDepth 100000 in
set_option maxHeartbeats 4000000 in
theorem k_Demand_served : ckM e_Demand_served = true := by decide +kernel
set_option maxRecDepth 100000 in
set_option maxHeartbeats 4000000 in
theorem k_Demand_serveHour : ckM e_Demand_serveHour = true := by decide +kernel
