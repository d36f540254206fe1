/-! a perfect turn by its gates: senders, rows of draws, what must be LOST -/
def lq_sn (g2 g3 : Nat) (s2 s3 : Bool) (f : Nat) : Bool := (Nat.ble 6 f == false) && ((!(Nat.beq f g2) || s2) && (!(Nat.beq f g3) || s3))
def lq_rw (sn : Nat → Bool) : Nat → Nat
  | 0 => 0
  | f + 1 => lq_rw sn f + (if sn f = true then 1 else 0)
def lq_ix (sn : Nat → Bool) (f k : Nat) : Nat := 5 * lq_rw sn f + (if k < f then k else k - 1)
def lq_cd (l : List Nat) (mk : Nat → Nat) : Option (List Nat) :=
  match l with
  | [] => none
  | [w] => some [mk w]
  | _ => some []
def lq_six : List Nat := [0, 1, 2, 3, 4, 5]
def lq_bt (a b w : Nat) : Bool := (Nat.blt a w && Nat.blt w b) || (Nat.blt b w && Nat.blt w a)
def lq_kk2 (g0 g1 g3 g4 g5 : Nat) (sn : Nat → Bool) : List Nat := lq_six.filter (fun w => sn w && ((Nat.beq w g3 || (Nat.beq w g4 || Nat.beq w g5)) && lq_bt g0 g1 w))
def lq_kk3 (g0 g1 g2 g4 g5 : Nat) (sn : Nat → Bool) : List Nat := lq_six.filter (fun w => sn w && ((Nat.beq w g0 || (Nat.beq w g1 || Nat.beq w g2)) && lq_bt g4 g5 w))
def lq_kk4 (g4 g5 : Nat) (sn : Nat → Bool) : List Nat := lq_six.filter (fun w => sn w && (!(Nat.beq w g4) && Nat.blt w g5))
def lq_kk5 (g0 g1 g2 g4 g5 : Nat) (sn : Nat → Bool) : List Nat := lq_six.filter (fun w => sn w && ((Nat.beq w g0 || (Nat.beq w g1 || Nat.beq w g2)) && (Nat.blt w g4 && Nat.blt w g5)))
def lq_nl (g0 g1 g2 g3 g4 g5 : Nat) (s3 : Bool) (sn : Nat → Bool) : Option (List Nat) :=
  match lq_cd (lq_kk2 g0 g1 g3 g4 g5 sn) (fun w => lq_ix sn w g2), lq_cd (lq_kk3 g0 g1 g2 g4 g5 sn) (fun w => lq_ix sn w g3), lq_cd (lq_kk4 g4 g5 sn) (fun w => lq_ix sn w g4), (if s3 = true then lq_cd (lq_kk5 g0 g1 g2 g4 g5 sn) (fun w => lq_ix sn w g3) else some []) with
  | some a, some b, some c, some d => some (lq_ix sn g0 g2 :: lq_ix sn g1 g2 :: lq_ix sn g4 g3 :: lq_ix sn g5 g3 :: lq_ix sn g5 g4 :: (a ++ (b ++ (c ++ d))))
  | _, _, _, _ => none
def lq_lf (g5 : Nat) (sn : Nat → Bool) : List Nat := (lq_six.filter (fun f => sn f && !(Nat.beq f g5))).map (fun f => lq_ix sn f g5)
def lq_Gx (s : Nat) (n l : Nat → Bool) : Bool := if s = 4 then lq_G4 n l else if s = 5 then lq_G5 n l else if s = 6 then lq_G6 n l else false
def lq_df (g0 g1 g2 g3 g4 g5 : Nat) : Bool := !(Nat.beq g0 g1) && (!(Nat.beq g0 g2) && (!(Nat.beq g1 g2) && (!(Nat.beq g0 g3) && (!(Nat.beq g1 g3) && (!(Nat.beq g2 g3) && (!(Nat.beq g0 g4) && (!(Nat.beq g1 g4) && (!(Nat.beq g2 g4) && (!(Nat.beq g3 g4) && (!(Nat.beq g0 g5) && (!(Nat.beq g1 g5) && (!(Nat.beq g2 g5) && (!(Nat.beq g3 g5) && !(Nat.beq g4 g5))))))))))))))
def lq_mem (L : List Nat) (j : Nat) : Bool := L.any (fun x => Nat.beq x j)
def lq_chk (g0 g1 g2 g3 g4 g5 : Nat) (s2 s3 : Bool) : Bool :=
  match lq_nl g0 g1 g2 g3 g4 g5 s3 (lq_sn g2 g3 s2 s3) with
  | none => true
  | some L => lq_Gx (lq_rw (lq_sn g2 g3 s2 s3) 6) (lq_mem L) (lq_mem (lq_lf g5 (lq_sn g2 g3 s2 s3)))
def lq_ch6 (g0 g1 g2 g3 g4 g5 : Nat) : Bool := !(lq_df g0 g1 g2 g3 g4 g5) || (lq_chk g0 g1 g2 g3 g4 g5 false false && (lq_chk g0 g1 g2 g3 g4 g5 false true && (lq_chk g0 g1 g2 g3 g4 g5 true false && lq_chk g0 g1 g2 g3 g4 g5 true true)))
def lq_pick (g : List Nat) : List Nat := lq_six.filter (fun x => !(lq_mem g x))
theorem lq_perms : lq_six.all (fun g0 => (lq_pick [g0]).all (fun g1 => (lq_pick [g0, g1]).all (fun g2 => (lq_pick [g0, g1, g2]).all (fun g3 => (lq_pick [g0, g1, g2, g3]).all (fun g4 => (lq_pick [g0, g1, g2, g3, g4]).all (fun g5 => lq_ch6 g0 g1 g2 g3 g4 g5)))))) = true := by decide +kernel
