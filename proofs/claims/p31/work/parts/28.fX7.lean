def fX7_readWord_n106 (μ : gM) : Option gM := (if (6 : Int32) < ((μ 1 3) - (μ 1 5)) then zLt (gUp μ 1 4 (4 : Int32)) (fun μ2 => (some μ2)) else zLt (gUp μ 1 4 (1 : Int32)) (fun μ3 => (some μ3)))
def fX7_readWord_n93 (k5 : gM → Option gM) (μ : gM) : Option gM := zLt (gUp μ 1 3 ((μ 1 3) + (1 : Int32))) (fun μ7 => (k5 μ7))
def fX7_readWord_l5 : Nat → gM → Option gM
  | 0, _ => none
  | n + 1, μ => (if (μ 1 2) ≤ (μ 1 3) then (fX7_readWord_n106 μ) else zCk (gIn (μ 1 3) 1500) ((if (μ 2 ((μ 1 3)).toNatClampNeg) < (97 : Int32) then (fX7_readWord_n106 μ) else zCk (gIn (μ 1 3) 1500) ((if (122 : Int32) < (μ 2 ((μ 1 3)).toNatClampNeg) then (fX7_readWord_n106 μ) else (if (6 : Int32) ≤ ((μ 1 3) - (μ 1 5)) then (fX7_readWord_n93 (fX7_readWord_l5 n) μ) else zCk (gIn (μ 1 3) 1500) (zLt (gUp μ 1 6 ((μ 1 6) ||| ((((μ 2 ((μ 1 3)).toNatClampNeg) - (97 : Int32)) + (1 : Int32)) <<< (((5 : Int32) * ((μ 1 3) - (μ 1 5))) &&& 31)))) (fun μ9 => (fX7_readWord_n93 (fX7_readWord_l5 n) μ9)))))))))
def fX7_readWord (μ : gM) : Option gM := zLt (gUp μ 1 6 (0 : Int32)) (fun μ1 => (fX7_readWord_l5 100000 μ1))
def fX7_readNumber_n94 (μ : gM) : Option gM := (if (4 : Int32) < ((μ 1 3) - (μ 1 5)) then zLt (gUp μ 1 4 (4 : Int32)) (fun μ2 => (some μ2)) else zLt (gUp μ 1 4 (2 : Int32)) (fun μ3 => (some μ3)))
def fX7_readNumber_n81 (k5 : gM → Option gM) (μ : gM) : Option gM := zLt (gUp μ 1 3 ((μ 1 3) + (1 : Int32))) (fun μ7 => (k5 μ7))
def fX7_readNumber_l5 : Nat → gM → Option gM
  | 0, _ => none
  | n + 1, μ => (if (μ 1 2) ≤ (μ 1 3) then (fX7_readNumber_n94 μ) else zCk (gIn (μ 1 3) 1500) ((if (μ 2 ((μ 1 3)).toNatClampNeg) < (48 : Int32) then (fX7_readNumber_n94 μ) else zCk (gIn (μ 1 3) 1500) ((if (57 : Int32) < (μ 2 ((μ 1 3)).toNatClampNeg) then (fX7_readNumber_n94 μ) else (if (4 : Int32) ≤ ((μ 1 3) - (μ 1 5)) then (fX7_readNumber_n81 (fX7_readNumber_l5 n) μ) else zCk (gIn (μ 1 3) 1500) (zLt (gUp μ 1 6 ((((μ 1 6) * (10 : Int32)) + (μ 2 ((μ 1 3)).toNatClampNeg)) - (48 : Int32))) (fun μ9 => (fX7_readNumber_n81 (fX7_readNumber_l5 n) μ9)))))))))
def fX7_readNumber (μ : gM) : Option gM := zLt (gUp μ 1 6 (0 : Int32)) (fun μ1 => (fX7_readNumber_l5 100000 μ1))
def fX7_advance_n175 (y1 : Int32) (μ : gM) : Option gM := (if (μ 1 5) = y1 then (if (μ 1 4) = (3 : Int32) then (some μ) else zLt (gUp μ 1 4 (4 : Int32)) (fun μ7 => (some μ7))) else (some μ))
def fX7_advance_n162 (y1 : Int32) (z0 : Int32) (μ : gM) : Option gM := zLt (gUp μ 1 4 z0) (fun μ5 => zLt (gUp μ5 1 3 ((μ5 1 3) + (1 : Int32))) (fun μ6 => (fX7_advance_n175 y1 μ6)))
def fX7_advance_n150 (y1 : Int32) (y2 : Int32) (μ : gM) : Option gM := (if y2 = (59 : Int32) then (fX7_advance_n162 y1 (3 : Int32) μ) else (fX7_advance_n162 y1 (4 : Int32) μ))
def fX7_advance_n131 (y1 : Int32) (y2 : Int32) (μ : gM) : Option gM := (if y2 < (48 : Int32) then (fX7_advance_n150 y1 y2 μ) else (if (57 : Int32) < y2 then (fX7_advance_n150 y1 y2 μ) else zBd (fX7_readNumber μ) (fun μ11 => (fX7_advance_n175 y1 μ11))))
def fX7_advance_n77 (y1 : Int32) (μ : gM) : Option gM := zLt (gUp μ 1 5 (μ 1 3)) (fun μ2 => (if (μ2 1 3) < (μ2 1 2) then zCk (gIn (μ2 1 3) 1500) (zLt (μ2 2 ((μ2 1 3)).toNatClampNeg) (fun x4 => (if x4 < (97 : Int32) then (fX7_advance_n131 y1 x4 μ2) else (if (122 : Int32) < x4 then (fX7_advance_n131 y1 x4 μ2) else zBd (fX7_readWord μ2) (fun μ14 => (fX7_advance_n175 y1 μ14)))))) else zLt (gUp μ2 1 4 (0 : Int32)) (fun μ17 => (some μ17))))
def fX7_advance_n64 (k25 : Int32 → gM → Option gM) (y1 : Int32) (μ : gM) : Option gM := zLt (gUp μ 1 3 ((μ 1 3) + (1 : Int32))) (fun μ20 => (k25 y1 μ20))
def fX7_advance_l25 : Nat → Int32 → gM → Option gM
  | 0, _, _ => none
  | n + 1, y1, μ => (if (μ 1 2) ≤ (μ 1 3) then (fX7_advance_n77 y1 μ) else zCk (gIn (μ 1 3) 1500) ((if (μ 2 ((μ 1 3)).toNatClampNeg) = (10 : Int32) then (fX7_advance_n64 (fX7_advance_l25 n) y1 μ) else zCk (gIn (μ 1 3) 1500) ((if (μ 2 ((μ 1 3)).toNatClampNeg) = (32 : Int32) then (fX7_advance_n64 (fX7_advance_l25 n) y1 μ) else (fX7_advance_n77 y1 μ))))))
def fX7_advance (μ : gM) : Option gM := (if (μ 1 4) = (1 : Int32) then zLt (μ 1 3) (fun x1 => (fX7_advance_l25 100000 x1 μ)) else (if (μ 1 4) = (2 : Int32) then zLt (μ 1 3) (fun x25 => (fX7_advance_l25 100000 x25 μ)) else (fX7_advance_l25 100000 (-1 : Int32) μ)))
def fX7_open (μ : gM) : Option gM := zLt (gUp μ 1 3 (0 : Int32)) (fun μ1 => zLt (gUp μ1 1 4 (3 : Int32)) (fun μ2 => zLt (gUp μ2 1 7 (0 : Int32)) (fun μ3 => zLt (gUp μ3 1 8 (-1 : Int32)) (fun μ4 => zBd (fX7_advance μ4) (fun μ5 => (some μ5))))))
def fX7_isEnded (μ : gM) : Option Int32 := (if (μ 1 4) = 0 then (some (1 : Int32)) else (some (0 : Int32)))
def fX7_ownWord_l2 : Nat → Int32 → gM → Option Int32
  | 0, _, _ => none
  | n + 1, y1, μ => (if (21 : Int32) ≤ y1 then (some (-1 : Int32)) else (if (μ 1 4) = (1 : Int32) then zCk (gIn y1 21) ((if (μ 3 (y1).toNatClampNeg) = (μ 1 6) then (some y1) else zLt (y1 + (1 : Int32)) (fun x2 => (fX7_ownWord_l2 n x2 μ)))) else (some (-1 : Int32))))
def fX7_ownWord (μ : gM) : Option Int32 := (fX7_ownWord_l2 100000 (0 : Int32) μ)
def fX7_refuse (a1 : Int32) (a2 : Int32) (μ : gM) : Option (Int32 × gM) := zLt (gUp μ 1 7 a1) (fun μ1 => zLt (gUp μ1 1 8 a2) (fun μ2 => (some ((0 : Int32), μ2))))
def fX7_isName (μ : gM) : Option Int32 := (if (μ 1 4) = (1 : Int32) then zBd (fX7_ownWord μ) (fun x1 => (if x1 = (-1 : Int32) then (some (1 : Int32)) else (some (0 : Int32)))) else (some (0 : Int32)))
def fX7_pass (a1 : Int32) (μ : gM) : Option (Int32 × gM) := zBd (fX7_ownWord μ) (fun x1 => (if x1 = a1 then zBd (fX7_advance μ) (fun μ2 => (some ((1 : Int32), μ2))) else zBp (fX7_refuse (1 : Int32) (μ 1 5) μ) (fun x3 μ4 => zCk (x3 == 0 || x3 == 1) ((some (x3, μ4))))))
def fX7_number_n35 (μ : gM) : Option (Int32 × gM) := zBp (fX7_refuse (4 : Int32) (μ 1 5) μ) (fun x2 μ3 => (some ((-1 : Int32), μ3)))
def fX7_number (a1 : Int32) (a2 : Int32) (μ : gM) : Option (Int32 × gM) := (if (μ 1 4) = (2 : Int32) then zLt (μ 1 6) (fun x1 => (if x1 < a1 then (fX7_number_n35 μ) else (if x1 ≤ a2 then zBd (fX7_advance μ) (fun μ4 => (some (x1, μ4))) else (fX7_number_n35 μ)))) else zBp (fX7_refuse (1 : Int32) (μ 1 5) μ) (fun x7 μ8 => (some ((-1 : Int32), μ8))))
def fX7_passIfThere (a1 : Int32) (μ : gM) : Option (Int32 × gM) := zBd (fX7_ownWord μ) (fun x1 => (if x1 = a1 then zBd (fX7_advance μ) (fun μ2 => (some ((1 : Int32), μ2))) else (some ((0 : Int32), μ))))
def fX7_known (p1 : Nat) (a2 : Int32) (μ : gM) : Option (Int32 × gM) := zBd (fX7_isName μ) (fun x1 => (if x1 = 0 then zBp (fX7_refuse (1 : Int32) (μ 1 5) μ) (fun x7 μ8 => (some ((-1 : Int32), μ8))) else zBd (fX1_find p1 a2 (μ 1 6) μ) (fun x2 => (if x2 = (-1 : Int32) then zBp (fX7_refuse (3 : Int32) (μ 1 5) μ) (fun x4 μ5 => (some ((-1 : Int32), μ5))) else zBd (fX7_advance μ) (fun μ3 => (some (x2, μ3)))))))
def fX7_knownMember (p1 : Nat) (μ : gM) : Option (Int32 × gM) := zBp (fX7_known p1 (0 : Int32) μ) (fun x1 μ2 => (if x1 = (-1 : Int32) then (some ((-1 : Int32), μ2)) else zBp (fX7_pass (8 : Int32) μ2) (fun x3 μ4 => (if x3 = 0 then (some ((-1 : Int32), μ4)) else zLt (μ4 1 5) (fun x5 => zBp (fX7_known p1 (2 : Int32) μ4) (fun x6 μ7 => (if x6 = (-1 : Int32) then (some ((-1 : Int32), μ7)) else zBd (fX1_isMember p1 x6 x1 μ7) (fun x8 => (if x8 = 0 then zBp (fX7_refuse (5 : Int32) x5 μ7) (fun x9 μ10 => (some ((-1 : Int32), μ10))) else (some (((x6 * (6 : Int32)) + x1), μ7)))))))))))
def fX7_passStop (μ : gM) : Option (Int32 × gM) := (if (μ 1 4) = (3 : Int32) then zBd (fX7_advance μ) (fun μ1 => (some ((1 : Int32), μ1))) else zBp (fX7_refuse (1 : Int32) (μ 1 5) μ) (fun x2 μ3 => zCk (x2 == 0 || x2 == 1) ((some (x2, μ3)))))
def fX7_isStop (μ : gM) : Option Int32 := (if (μ 1 4) = (3 : Int32) then (some (1 : Int32)) else (some (0 : Int32)))
def fX7_append_l3 : Nat → Int32 → Int32 → gM → Option gM
  | 0, _, _, _ => none
  | n + 1, y1, y2, μ => (if y2 < 0 then (some μ) else (if (1500 : Int32) ≤ (μ 1 2) then (some μ) else zCk (gIn (μ 1 2) 1500) (zLt (gUp μ 2 ((μ 1 2)).toNatClampNeg ((y1 >>> (y2 &&& 31)) &&& (255 : Int32))) (fun μ2 => zLt (gUp μ2 1 2 ((μ2 1 2) + (1 : Int32))) (fun μ3 => zLt (y2 + (-8 : Int32)) (fun x4 => (fX7_append_l3 n y1 x4 μ3)))))))
def fX7_append (a1 : Int32) (μ : gM) : Option gM := (fX7_append_l3 100000 a1 (24 : Int32) μ)
