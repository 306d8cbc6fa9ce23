def fX3_isBridgeUp (M : xM) (p1 : Int32) : Option (Int32) :=
  xrd 8 (M.1 2) p1 fun x1 =>
  if x1 = (nI 1) then
    some (nI 1)
  else
    some (nI 0)
def fX3_isActive (M : xM) (p1 : Int32) : Option (Int32) :=
  xrd 24 (M.1 6) p1 fun x1 =>
  if x1 = (nI 1) then
    xrd 24 (M.1 3) p1 fun x2 =>
    (fX3_isBridgeUp M x2).bind fun z3 =>
    if z3 = nI 0 then
      some (nI 0)
    else
      some (nI 1)
  else
    some (nI 0)
def fX3_storesMessage (M : xM) (p1 : Int32) : Option (Int32) :=
  xrd 24 (M.1 10) p1 fun x1 =>
  if x1 ≤ nI 0 then
    some (nI 0)
  else
    some (nI 1)
def fX2_senderOf (M : xM) (p1 : Int64) : Option (Int32) :=
  some (((p1 >>> (((nI 8) : Int32).toInt64 &&& 63)) &&& 255 : Int64).toInt32)
def fX3_identifierOf (M : xM) (p1 : Int32) : Option (Int32) :=
  xrd 8 (M.1 1) p1 fun x1 =>
  some (((nI 16) * x1) + p1)
def fX0_isFromOwnBridge (M : xM) (p1 : Int32) : Option (Int32) :=
  xrd 24 (M.2 9) p1 fun x1 =>
  (fX2_senderOf M x1).bind fun z2 =>
  xrd 24 (M.1 3) p1 fun x3 =>
  (fX3_identifierOf M x3).bind fun z4 =>
  if z2 = z4 then
    some (nI 1)
  else
    some (nI 0)
def fX0_hasOffer (M : xM) (p1 : Int32) : Option (Int32) :=
  (fX3_isActive M p1).bind fun z1 =>
  if z1 = nI 0 then
    some (nI 0)
  else
    (fX3_storesMessage M p1).bind fun z2 =>
    if z2 = nI 0 then
      some (nI 0)
    else
      (fX0_isFromOwnBridge M p1).bind fun z3 =>
      if z3 = nI 0 then
        some (nI 1)
      else
        some (nI 0)
def fX2_withCostAdded (M : xM) (p1 : Int64) (p2 : Int32) : Option (Int64) :=
  some (p1 + (((p2 : Int32).toInt64) <<< (((nI 16) : Int32).toInt64 &&& 63)))
def fX0_considerOffer_j53 (M : xM) (v1 : Int32) (v2 : Int32) (v3 : Int64) : Option (xM) :=
  xwJ 8 M 20 v2 v3 fun M6 =>
  xwI 8 M6 21 v2 v1 fun M7 =>
  some M7
def fX0_considerOffer (M : xM) (p1 : Int32) : Option (xM) :=
  xrd 24 (M.1 3) p1 fun x1 =>
  xrd 24 (M.2 9) p1 fun x2 =>
  xrd 24 (M.1 5) p1 fun x3 =>
  (fX2_withCostAdded M x2 x3).bind fun z4 =>
  xrd 8 (M.1 21) x1 fun x5 =>
  if x5 = (-1) then
    fX0_considerOffer_j53 M p1 x1 z4
  else
    xrd 8 (M.2 20) x1 fun x8 =>
    if nI 0 ≤ (lg_cmp z4 x8) then
      some M
    else
      fX0_considerOffer_j53 M p1 x1 z4
def fX0_findBestOffers_B2  (k26 : xM → Option (xM)) (M : xM) (v1 : Int32) (b2 : xM → Int32 → Option (xM)) : Option (xM) :=
  if (M.1 0 0) ≤ v1 then
    k26 M
  else
    xwI 8 M 21 v1 (-1) fun M1 =>
    b2 M1 (v1 + (nI 1))
def fX0_findBestOffers_L2  (k26 : xM → Option (xM)) : Nat → xM → Int32 → Option (xM)
  | 0, _, _ => none
  | n + 1, M, v1 => fX0_findBestOffers_B2 k26 M v1 (fun M v1 => fX0_findBestOffers_L2 k26 n M v1)
def fX0_findBestOffers_B28  (k58 : xM → Option (xM)) (M : xM) (v1 : Int32) (b28 : xM → Int32 → Option (xM)) : Option (xM) :=
  if (M.1 0 2) ≤ v1 then
    k58 M
  else
    (fX0_hasOffer M v1).bind fun z3 =>
    if z3 = nI 0 then
      b28 M (v1 + (nI 1))
    else
      (fX0_considerOffer M v1).bind fun z4 =>
      b28 z4 (v1 + (nI 1))
def fX0_findBestOffers_L28  (k58 : xM → Option (xM)) : Nat → xM → Int32 → Option (xM)
  | 0, _, _ => none
  | n + 1, M, v1 => fX0_findBestOffers_B28 k58 M v1 (fun M v1 => fX0_findBestOffers_L28 k58 n M v1)
def fX0_findBestOffers (M : xM) : Option (xM) :=
  fX0_findBestOffers_L2 (fun M2 => 
  fX0_findBestOffers_L28 (fun M5 => 
  some M5) 512 M2 (nI 0)) 512 M (nI 0)
def fX2_rootOf (M : xM) (p1 : Int64) : Option (Int32) :=
  some ((p1 >>> (((nI 40) : Int32).toInt64 &&& 63) : Int64).toInt32)
def fX2_costOf (M : xM) (p1 : Int64) : Option (Int32) :=
  some (((p1 >>> (((nI 16) : Int32).toInt64 &&& 63)) &&& 16777215 : Int64).toInt32)
def fX0_chooseRoot_j74 (M : xM) (v1 : Int32) (v2 : Int32) : Option (xM) :=
  xwI 8 M 16 v1 v2 fun M3 =>
  xwI 8 M3 17 v1 (nI 0) fun M4 =>
  xwI 8 M4 18 v1 (-1) fun M5 =>
  some M5
def fX0_chooseRoot (M : xM) (p1 : Int32) : Option (xM) :=
  (fX3_identifierOf M p1).bind fun z1 =>
  xrd 8 (M.1 21) p1 fun x2 =>
  if x2 = (-1) then
    fX0_chooseRoot_j74 M p1 z1
  else
    xrd 8 (M.2 20) p1 fun x6 =>
    (fX2_rootOf M x6).bind fun z7 =>
    if z1 ≤ z7 then
      fX0_chooseRoot_j74 M p1 z1
    else
      xrd 8 (M.2 20) p1 fun x8 =>
      (fX2_rootOf M x8).bind fun z9 =>
      xwI 8 M 16 p1 z9 fun M10 =>
      xrd 8 (M10.2 20) p1 fun x11 =>
      (fX2_costOf M10 x11).bind fun z12 =>
      xwI 8 M10 17 p1 z12 fun M13 =>
      xwI 8 M13 18 p1 x2 fun M14 =>
      some M14
def fX2_of (M : xM) (p1 : Int32) (p2 : Int32) (p3 : Int32) (p4 : Int32) : Option (Int64) :=
  some ((((((p1 : Int32).toInt64) <<< (((nI 40) : Int32).toInt64 &&& 63)) ||| (((p2 : Int32).toInt64) <<< (((nI 16) : Int32).toInt64 &&& 63))) ||| (((p3 : Int32).toInt64) <<< (((nI 8) : Int32).toInt64 &&& 63))) ||| ((p4 : Int32).toInt64))
def fX0_ownMessage (M : xM) (p1 : Int32) : Option (Int64) :=
  xrd 24 (M.1 3) p1 fun x1 =>
  xrd 8 (M.1 16) x1 fun x2 =>
  xrd 8 (M.1 17) x1 fun x3 =>
  (fX3_identifierOf M x1).bind fun z4 =>
  (fX2_of M x2 x3 z4 p1).bind fun z5 =>
  some z5
def fX0_roleFor (M : xM) (p1 : Int32) : Option (Int32) :=
  (fX3_isActive M p1).bind fun z1 =>
  if z1 = nI 0 then
    some (nI 0)
  else
    xrd 24 (M.1 3) p1 fun x2 =>
    xrd 8 (M.1 18) x2 fun x3 =>
    if x3 = p1 then
      some (nI 1)
    else
      (fX3_storesMessage M p1).bind fun z4 =>
      if z4 = nI 0 then
        some (nI 2)
      else
        (fX0_ownMessage M p1).bind fun z5 =>
        xrd 24 (M.2 9) p1 fun x6 =>
        if nI 0 ≤ (lg_cmp z5 x6) then
          (fX0_isFromOwnBridge M p1).bind fun z7 =>
          if z7 = nI 0 then
            some (nI 3)
          else
            some (nI 4)
        else
          some (nI 2)
def fX0_elect_B6  (k28 : xM → Option (Int32 × xM)) (M : xM) (v1 : Int32) (b6 : xM → Int32 → Option (Int32 × xM)) : Option (Int32 × xM) :=
  if (M.1 0 0) ≤ v1 then
    k28 M
  else
    (fX0_chooseRoot M v1).bind fun z2 =>
    b6 z2 (v1 + (nI 1))
def fX0_elect_L6  (k28 : xM → Option (Int32 × xM)) : Nat → xM → Int32 → Option (Int32 × xM)
  | 0, _, _ => none
  | n + 1, M, v1 => fX0_elect_B6 k28 M v1 (fun M v1 => fX0_elect_L6 k28 n M v1)
def fX0_elect_j68 (M : xM) (v2 : Int32) (v3 : Int32) (s0 : Int32) (b32 : xM → Int32 → Int32 → Option (Int32 × xM)) : Option (Int32 × xM) :=
  xwI 24 M 19 v2 v3 fun M5 =>
  b32 M5 s0 (v2 + (nI 1))
def fX0_elect_B32  (k82 : xM → Int32 → Option (Int32 × xM)) (M : xM) (v1 : Int32) (v2 : Int32) (b32 : xM → Int32 → Int32 → Option (Int32 × xM)) : Option (Int32 × xM) :=
  if (M.1 0 2) ≤ v2 then
    k82 M v1
  else
    (fX0_roleFor M v2).bind fun z4 =>
    if v1 = nI 0 then
      xrd 24 (M.1 19) v2 fun x6 =>
      if z4 = x6 then
        fX0_elect_j68 M v2 z4 (nI 0) b32
      else
        fX0_elect_j68 M v2 z4 (nI 1) b32
    else
      fX0_elect_j68 M v2 z4 (nI 1) b32
def fX0_elect_L32  (k82 : xM → Int32 → Option (Int32 × xM)) : Nat → xM → Int32 → Int32 → Option (Int32 × xM)
  | 0, _, _, _ => none
  | n + 1, M, v1, v2 => fX0_elect_B32 k82 M v1 v2 (fun M v1 v2 => fX0_elect_L32 k82 n M v1 v2)
def fX0_elect (M : xM) : Option (Int32 × xM) :=
  (fX0_findBestOffers M).bind fun z1 =>
  fX0_elect_L6 (fun M3 => 
  fX0_elect_L32 (fun M8 v7 => 
  xzb v7 (some (v7, M8))) 512 M3 (nI 0) (nI 0)) 512 z1 (nI 0)
def fX1_transmit (M : xM) (p1 : Int32) (p2 : Int32) : Option (xM) :=
  if (M.1 27 0) < (nI 64) then
    xwI 64 M 28 (M.1 27 0) p1 fun M1 =>
    xwI 64 M1 29 (M1.1 27 0) p2 fun M2 =>
    xpf M2 27 0 ((M2.1 27 0) + (nI 1)) fun M3 =>
    xrd 10 (M3.1 14) p1 fun x4 =>
    xwI 10 M3 14 p1 (x4 + (nI 1)) fun M5 =>
    some M5
  else
    some M
def fX3_entryIndex (M : xM) (p1 : Int32) (p2 : Int32) : Option (Int32) :=
  some ((p1 * (nI 8)) + p2)
def fX3_learn (M : xM) (p1 : Int32) (p2 : Int32) : Option (xM) :=
  xrd 24 (M.1 3) p2 fun x1 =>
  (fX3_entryIndex M x1 p1).bind fun z2 =>
  xwI 64 M 12 z2 p2 fun M3 =>
  xwI 64 M3 13 z2 (nI 10) fun M4 =>
  some M4
def fX3_learnedPort (M : xM) (p1 : Int32) (p2 : Int32) : Option (Int32) :=
  (fX3_entryIndex M p1 p2).bind fun z1 =>
  xrd 64 (M.1 13) z1 fun x2 =>
  if x2 ≤ nI 0 then
    some (-1)
  else
    xrd 64 (M.1 12) z1 fun x3 =>
    some x3
def fX3_isForwarding (M : xM) (p1 : Int32) : Option (Int32) :=
  xrd 24 (M.1 7) p1 fun x1 =>
  if x1 = (nI 4) then
    some (nI 1)
  else
    some (nI 0)
def fX1_flood_B2 (v1 : Int32) (v2 : Int32) (k62 : xM → Option (xM)) (M : xM) (v3 : Int32) (b2 : xM → Int32 → Option (xM)) : Option (xM) :=
  if (M.1 0 2) ≤ v3 then
    k62 M
  else
    xrd 24 (M.1 3) v3 fun x1 =>
    if x1 = v1 then
      if v3 = v2 then
        b2 M (v3 + (nI 1))
      else
        (fX3_isForwarding M v3).bind fun z2 =>
        if z2 = nI 0 then
          b2 M (v3 + (nI 1))
        else
          xrd 24 (M.1 4) v3 fun x3 =>
          (fX1_transmit M x3 v3).bind fun z4 =>
          b2 z4 (v3 + (nI 1))
    else
      b2 M (v3 + (nI 1))
def fX1_flood_L2 (v1 : Int32) (v2 : Int32) (k62 : xM → Option (xM)) : Nat → xM → Int32 → Option (xM)
  | 0, _, _ => none
  | n + 1, M, v3 => fX1_flood_B2 v1 v2 k62 M v3 (fun M v3 => fX1_flood_L2 v1 v2 k62 n M v3)
def fX1_flood (M : xM) (p1 : Int32) (p2 : Int32) : Option (xM) :=
  fX1_flood_L2 p1 p2 (fun M5 => 
  some M5) 512 M (nI 0)
def fX1_passOn_j48 (M : xM) (v1 : Int32) (v3 : Int32) : Option (xM) :=
  (fX1_flood M v3 v1).bind fun z3 =>
  some z3
def fX1_passOn_j28 (M : xM) (v1 : Int32) (v3 : Int32) (s0 : Int32) : Option (xM) :=
  if s0 = (-1) then
    fX1_passOn_j48 M v1 v3
  else
    (fX3_isForwarding M s0).bind fun z4 =>
    if z4 = nI 0 then
      fX1_passOn_j48 M v1 v3
    else
      if s0 = v1 then
        some M
      else
        xrd 24 (M.1 4) s0 fun x5 =>
        (fX1_transmit M x5 s0).bind fun z6 =>
        some z6
def fX1_passOn (M : xM) (p1 : Int32) (p2 : Int32) : Option (xM) :=
  xrd 24 (M.1 3) p1 fun x1 =>
  if p2 = (-1) then
    fX1_passOn_j28 M p1 x1 (-1)
  else
    (fX3_learnedPort M x1 p2).bind fun z2 =>
    fX1_passOn_j28 M p1 x1 z2
def fX1_visitPort_j32 (M : xM) (v1 : Int32) (v3 : Int32) (v4 : Int32) : Option (xM) :=
  if v4 = (nI 4) then
    (fX1_passOn M v1 v3).bind fun z3 =>
    some z3
  else
    some M
def fX1_visitPort_j23 (M : xM) (v1 : Int32) (v2 : Int32) (v3 : Int32) (v4 : Int32) : Option (xM) :=
  (fX3_learn M v2 v1).bind fun z2 =>
  fX1_visitPort_j32 z2 v1 v3 v4
def fX1_visitPort (M : xM) (p1 : Int32) (p2 : Int32) (p3 : Int32) : Option (xM) :=
  xrd 24 (M.1 7) p1 fun x1 =>
  if x1 = (nI 3) then
    fX1_visitPort_j23 M p1 p2 p3 x1
  else
    if x1 = (nI 4) then
      fX1_visitPort_j23 M p1 p2 p3 x1
    else
      fX1_visitPort_j32 M p1 p3 x1
def fX1_visitPorts_B3 (v1 : Int32) (v2 : Int32) (v3 : Int32) (v4 : Int32) (k62 : xM → Option (xM)) (M : xM) (v5 : Int32) (b3 : xM → Int32 → Option (xM)) : Option (xM) :=
  if (M.1 0 2) ≤ v5 then
    k62 M
  else
    xrd 24 (M.1 4) v5 fun x1 =>
    if x1 = v1 then
      if v5 = v2 then
        b3 M (v5 + (nI 1))
      else
        (fX3_isActive M v5).bind fun z2 =>
        if z2 = nI 0 then
          b3 M (v5 + (nI 1))
        else
          (fX1_visitPort M v5 v3 v4).bind fun z3 =>
          b3 z3 (v5 + (nI 1))
    else
      b3 M (v5 + (nI 1))
def fX1_visitPorts_L3 (v1 : Int32) (v2 : Int32) (v3 : Int32) (v4 : Int32) (k62 : xM → Option (xM)) : Nat → xM → Int32 → Option (xM)
  | 0, _, _ => none
  | n + 1, M, v5 => fX1_visitPorts_B3 v1 v2 v3 v4 k62 M v5 (fun M v5 => fX1_visitPorts_L3 v1 v2 v3 v4 k62 n M v5)
def fX1_visitPorts (M : xM) (p1 : Int32) (p2 : Int32) (p3 : Int32) (p4 : Int32) : Option (xM) :=
  fX1_visitPorts_L3 p1 p2 p3 p4 (fun M4 => 
  some M4) 512 M (nI 0)
def fX1_deliver_B7 (v1 : Int32) (v2 : Int32) (k29 : xM → Option (Int32 × xM)) (M : xM) (v3 : Int32) (b7 : xM → Int32 → Option (Int32 × xM)) : Option (Int32 × xM) :=
  if (nI 10) ≤ v3 then
    k29 M
  else
    xwI 10 M 14 v3 (nI 0) fun M2 =>
    b7 M2 (v3 + (nI 1))
def fX1_deliver_L7 (v1 : Int32) (v2 : Int32) (k29 : xM → Option (Int32 × xM)) : Nat → xM → Int32 → Option (Int32 × xM)
  | 0, _, _ => none
  | n + 1, M, v3 => fX1_deliver_B7 v1 v2 k29 M v3 (fun M v3 => fX1_deliver_L7 v1 v2 k29 n M v3)
def fX1_deliver_B45 (v1 : Int32) (v2 : Int32) (k83 : xM → Option (Int32 × xM)) (M : xM) (v3 : Int32) (b45 : xM → Int32 → Option (Int32 × xM)) : Option (Int32 × xM) :=
  if (M.1 27 0) ≤ v3 then
    k83 M
  else
    if (nI 64) ≤ v3 then
      k83 M
    else
      xrd 64 (M.1 28) v3 fun x6 =>
      xrd 64 (M.1 29) v3 fun x7 =>
      (fX1_visitPorts M x6 x7 v1 v2).bind fun z8 =>
      b45 z8 (v3 + (nI 1))
def fX1_deliver_L45 (v1 : Int32) (v2 : Int32) (k83 : xM → Option (Int32 × xM)) : Nat → xM → Int32 → Option (Int32 × xM)
  | 0, _, _ => none
  | n + 1, M, v3 => fX1_deliver_B45 v1 v2 k83 M v3 (fun M v3 => fX1_deliver_L45 v1 v2 k83 n M v3)
def fX1_deliver_j83 (M : xM) : Option (Int32 × xM) :=
  some (M.1 27 0, M)
def fX1_deliver (M : xM) (p1 : Int32) (p2 : Int32) : Option (Int32 × xM) :=
  xpf M 27 0 (nI 0) fun M1 =>
  fX1_deliver_L7 p1 p2 (fun M3 => 
  xrd 8 (M3.1 11) p1 fun x4 =>
  (fX1_transmit M3 x4 (-1)).bind fun z5 =>
  fX1_deliver_L45 p1 p2 (fun M9 => 
  fX1_deliver_j83 M9) 512 z5 (nI 0)) 512 M1 (nI 0)
def fX2_senderPortOf (M : xM) (p1 : Int64) : Option (Int32) :=
  some ((p1 &&& 255 : Int64).toInt32)
def fX2_haveSameSource (M : xM) (p1 : Int64) (p2 : Int64) : Option (Int32) :=
  if (lg_cmp (p1 &&& 65535) (p2 &&& 65535)) = nI 0 then
    some (nI 1)
  else
    some (nI 0)
def fX3_hasBridge (M : xM) (p1 : Int32) : Option (Int32) :=
  if p1 < nI 0 then
    some (nI 0)
  else
    if (M.1 0 0) ≤ p1 then
      some (nI 0)
    else
      some (nI 1)
def fX3_hasSegment (M : xM) (p1 : Int32) : Option (Int32) :=
  if p1 < nI 0 then
    some (nI 0)
  else
    if (M.1 0 1) ≤ p1 then
      some (nI 0)
    else
      some (nI 1)
def fX3_hasPort (M : xM) (p1 : Int32) : Option (Int32) :=
  if p1 < nI 0 then
    some (nI 0)
  else
    if (M.1 0 2) ≤ p1 then
      some (nI 0)
    else
      some (nI 1)
def fX3_hasStation (M : xM) (p1 : Int32) : Option (Int32) :=
  if p1 < nI 0 then
    some (nI 0)
  else
    if (M.1 0 3) ≤ p1 then
      some (nI 0)
    else
      some (nI 1)
def fX3_appendBridge (M : xM) (p1 : Int32) : Option (Int32 × xM) :=
  xwI 8 M 1 (M.1 0 0) p1 fun M1 =>
  xwI 8 M1 2 (M.1 0 0) (nI 1) fun M2 =>
  xpf M2 0 0 ((M2.1 0 0) + (nI 1)) fun M3 =>
  some (M.1 0 0, M3)
def fX3_appendSegment (M : xM) : Option (Int32 × xM) :=
  xpf M 0 1 ((M.1 0 1) + (nI 1)) fun M1 =>
  some (M.1 0 1, M1)
def fX3_appendPort_j57 (M : xM) (v4 : Int32) (s0 : Int32) (s1 : Int32) : Option (Int32 × xM) :=
  xwI 24 M 7 s1 s0 fun M6 =>
  xpf M6 0 2 ((M6.1 0 2) + (nI 1)) fun M7 =>
  some (v4, M7)
def fX3_appendPort (M : xM) (p1 : Int32) (p2 : Int32) (p3 : Int32) : Option (Int32 × xM) :=
  xwI 24 M 3 (M.1 0 2) p1 fun M1 =>
  xwI 24 M1 4 (M.1 0 2) p2 fun M2 =>
  xwI 24 M2 5 (M.1 0 2) p3 fun M3 =>
  xwI 24 M3 6 (M.1 0 2) (nI 1) fun M4 =>
  (fX3_isBridgeUp M4 p1).bind fun z5 =>
  if z5 = nI 0 then
    fX3_appendPort_j57 M4 (M.1 0 2) (nI 0) (M.1 0 2)
  else
    fX3_appendPort_j57 M4 (M.1 0 2) (nI 1) (M.1 0 2)
def fX3_appendStation (M : xM) (p1 : Int32) : Option (Int32 × xM) :=
  xwI 8 M 11 (M.1 0 3) p1 fun M1 =>
  xpf M1 0 3 ((M1.1 0 3) + (nI 1)) fun M2 =>
  some (M.1 0 3, M2)
def fX3_forgetEntriesWith_B2 (v1 : Int32) (k34 : xM → Option (xM)) (M : xM) (v2 : Int32) (b2 : xM → Int32 → Option (xM)) : Option (xM) :=
  if (nI 64) ≤ v2 then
    k34 M
  else
    xrd 64 (M.1 12) v2 fun x1 =>
    if x1 = v1 then
      xwI 64 M 13 v2 (nI 0) fun M2 =>
      b2 M2 (v2 + (nI 1))
    else
      b2 M (v2 + (nI 1))
def fX3_forgetEntriesWith_L2 (v1 : Int32) (k34 : xM → Option (xM)) : Nat → xM → Int32 → Option (xM)
  | 0, _, _ => none
  | n + 1, M, v2 => fX3_forgetEntriesWith_B2 v1 k34 M v2 (fun M v2 => fX3_forgetEntriesWith_L2 v1 k34 n M v2)
def fX3_forgetEntriesWith (M : xM) (p1 : Int32) : Option (xM) :=
  fX3_forgetEntriesWith_L2 p1 (fun M3 => 
  some M3) 512 M (nI 0)
def fX3_resetPort (M : xM) (p1 : Int32) : Option (xM) :=
  xwI 24 M 10 p1 (nI 0) fun M1 =>
  xwI 24 M1 8 p1 (nI 0) fun M2 =>
  (fX3_isActive M2 p1).bind fun z3 =>
  if z3 = nI 0 then
    xwI 24 M2 7 p1 (nI 0) fun M4 =>
    (fX3_forgetEntriesWith M4 p1).bind fun z5 =>
    some z5
  else
    xwI 24 M2 7 p1 (nI 1) fun M6 =>
    some M6
def fX3_switchBridge_B17 (v1 : Int32) (v2 : Int32) (v3 : Int32) (k65 : xM → Option (Int32 × xM)) (M : xM) (v4 : Int32) (b17 : xM → Int32 → Option (Int32 × xM)) : Option (Int32 × xM) :=
  if (M.1 0 2) ≤ v4 then
    k65 M
  else
    if v3 = v2 then
      b17 M (v4 + (nI 1))
    else
      xrd 24 (M.1 3) v4 fun x3 =>
      if x3 = v1 then
        xrd 24 (M.1 6) v4 fun x4 =>
        if x4 = (nI 1) then
          (fX3_resetPort M v4).bind fun z5 =>
          b17 z5 (v4 + (nI 1))
        else
          b17 M (v4 + (nI 1))
      else
        b17 M (v4 + (nI 1))
def fX3_switchBridge_L17 (v1 : Int32) (v2 : Int32) (v3 : Int32) (k65 : xM → Option (Int32 × xM)) : Nat → xM → Int32 → Option (Int32 × xM)
  | 0, _, _ => none
  | n + 1, M, v4 => fX3_switchBridge_B17 v1 v2 v3 k65 M v4 (fun M v4 => fX3_switchBridge_L17 v1 v2 v3 k65 n M v4)
def fX3_switchBridge (M : xM) (p1 : Int32) (p2 : Int32) : Option (Int32 × xM) :=
  xrd 8 (M.1 2) p1 fun x1 =>
  xwI 8 M 2 p1 p2 fun M2 =>
  fX3_switchBridge_L17 p1 p2 x1 (fun M6 => 
  some (x1, M6)) 512 M2 (nI 0)
def fX3_switchPort (M : xM) (p1 : Int32) (p2 : Int32) : Option (Int32 × xM) :=
  xrd 24 (M.1 6) p1 fun x1 =>
  xwI 24 M 6 p1 p2 fun M2 =>
  if x1 = p2 then
    some (x1, M2)
  else
    xrd 24 (M2.1 3) p1 fun x3 =>
    (fX3_isBridgeUp M2 x3).bind fun z4 =>
    if z4 = nI 0 then
      some (x1, M2)
    else
      (fX3_resetPort M2 p1).bind fun z5 =>
      some (x1, z5)
def fX3_ageEntries_B2  (k36 : xM → Option (xM)) (M : xM) (v1 : Int32) (b2 : xM → Int32 → Option (xM)) : Option (xM) :=
  if (nI 64) ≤ v1 then
    k36 M
  else
    xrd 64 (M.1 13) v1 fun x1 =>
    if x1 ≤ nI 0 then
      b2 M (v1 + (nI 1))
    else
      xrd 64 (M.1 13) v1 fun x2 =>
      xwI 64 M 13 v1 (x2 - (nI 1)) fun M3 =>
      b2 M3 (v1 + (nI 1))
def fX3_ageEntries_L2  (k36 : xM → Option (xM)) : Nat → xM → Int32 → Option (xM)
  | 0, _, _ => none
  | n + 1, M, v1 => fX3_ageEntries_B2 k36 M v1 (fun M v1 => fX3_ageEntries_L2 k36 n M v1)
def fX3_ageEntries (M : xM) : Option (xM) :=
  fX3_ageEntries_L2 (fun M4 => 
  some M4) 512 M (nI 0)
def fX3_ageMessage (M : xM) (p1 : Int32) : Option (xM) :=
  xrd 24 (M.1 10) p1 fun x1 =>
  if x1 ≤ nI 0 then
    some M
  else
    xrd 24 (M.1 10) p1 fun x2 =>
    xwI 24 M 10 p1 (x2 - (nI 1)) fun M3 =>
    some M3
def fX4_ageToSend (M : xM) (p1 : Int32) : Option (Int32) :=
  xrd 24 (M.1 3) p1 fun x1 =>
  xrd 8 (M.1 18) x1 fun x2 =>
  if x2 = (-1) then
    some (nI 0)
  else
    xrd 24 (M.1 10) x2 fun x3 =>
    some ((nI 7) - x3)
def fX4_isBetterSender (M : xM) (p1 : Int32) (p2 : Int32) : Option (Int32) :=
  if p2 = (-1) then
    some (nI 1)
  else
    xrd 24 (M.2 23) p1 fun x1 =>
    xrd 24 (M.2 23) p2 fun x2 =>
    if nI 0 ≤ (lg_cmp x1 x2) then
      some (nI 0)
    else
      some (nI 1)
def fX4_rankSender (M : xM) (p1 : Int32) : Option (xM) :=
  xrd 24 (M.1 4) p1 fun x1 =>
  xrd 10 (M.1 25) x1 fun x2 =>
  (fX4_isBetterSender M p1 x2).bind fun z3 =>
  if z3 = nI 0 then
    xrd 10 (M.1 26) x1 fun x4 =>
    (fX4_isBetterSender M p1 x4).bind fun z5 =>
    if z5 = nI 0 then
      some M
    else
      xwI 10 M 26 x1 p1 fun M6 =>
      some M6
  else
    xrd 10 (M.1 25) x1 fun x7 =>
    xwI 10 M 26 x1 x7 fun M8 =>
    xwI 10 M8 25 x1 p1 fun M9 =>
    some M9
def fX4_sendMessages_B2  (k33 : xM → Option (xM)) (M : xM) (v1 : Int32) (b2 : xM → Int32 → Option (xM)) : Option (xM) :=
  if (M.1 0 1) ≤ v1 then
    k33 M
  else
    xwI 10 M 25 v1 (-1) fun M1 =>
    xwI 10 M1 26 v1 (-1) fun M2 =>
    b2 M2 (v1 + (nI 1))
def fX4_sendMessages_L2  (k33 : xM → Option (xM)) : Nat → xM → Int32 → Option (xM)
  | 0, _, _ => none
  | n + 1, M, v1 => fX4_sendMessages_B2 k33 M v1 (fun M v1 => fX4_sendMessages_L2 k33 n M v1)
def fX4_sendMessages_B35  (k102 : xM → Option (xM)) (M : xM) (v1 : Int32) (b35 : xM → Int32 → Option (xM)) : Option (xM) :=
  if (M.1 0 2) ≤ v1 then
    k102 M
  else
    (fX4_ageToSend M v1).bind fun z4 =>
    xrd 24 (M.1 19) v1 fun x5 =>
    if x5 = (nI 2) then
      if (nI 5) < z4 then
        b35 M (v1 + (nI 1))
      else
        (fX0_ownMessage M v1).bind fun z6 =>
        xwJ 24 M 23 v1 z6 fun M7 =>
        xwI 24 M7 24 v1 z4 fun M8 =>
        (fX4_rankSender M8 v1).bind fun z9 =>
        b35 z9 (v1 + (nI 1))
    else
      b35 M (v1 + (nI 1))
def fX4_sendMessages_L35  (k102 : xM → Option (xM)) : Nat → xM → Int32 → Option (xM)
  | 0, _, _ => none
  | n + 1, M, v1 => fX4_sendMessages_B35 k102 M v1 (fun M v1 => fX4_sendMessages_L35 k102 n M v1)
def fX4_sendMessages (M : xM) : Option (xM) :=
  fX4_sendMessages_L2 (fun M3 => 
  fX4_sendMessages_L35 (fun M10 => 
  some M10) 512 M3 (nI 0)) 512 M (nI 0)
def fX4_accepts (M : xM) (p1 : Int32) (p2 : Int64) : Option (Int32) :=
  (fX3_storesMessage M p1).bind fun z1 =>
  if z1 = nI 0 then
    some (nI 1)
  else
    xrd 24 (M.2 9) p1 fun x2 =>
    if (lg_cmp p2 x2) ≤ nI 0 then
      some (nI 1)
    else
      (fX2_haveSameSource M p2 x2).bind fun z3 =>
      if z3 = nI 0 then
        some (nI 0)
      else
        some (nI 1)
def fX4_takesMessage_j48 (M : xM) (v1 : Int32) (s0 : Int32) : Option (Int32 × xM) :=
  if s0 = (-1) then
    some ((nI 0), M)
  else
    xrd 24 (M.2 23) s0 fun x5 =>
    (fX4_accepts M v1 x5).bind fun z6 =>
    if z6 = nI 0 then
      some ((nI 0), M)
    else
      xrd 24 (M.2 23) s0 fun x7 =>
      xwJ 24 M 9 v1 x7 fun M8 =>
      xrd 24 (M8.1 24) s0 fun x9 =>
      xwI 24 M8 10 v1 ((nI 6) - x9) fun M10 =>
      some ((nI 1), M10)
def fX4_takesMessage (M : xM) (p1 : Int32) : Option (Int32 × xM) :=
  (fX3_isActive M p1).bind fun z1 =>
  if z1 = nI 0 then
    some ((nI 0), M)
  else
    xrd 24 (M.1 4) p1 fun x2 =>
    xrd 10 (M.1 25) x2 fun x3 =>
    if x3 = p1 then
      xrd 10 (M.1 26) x2 fun x11 =>
      fX4_takesMessage_j48 M p1 x11
    else
      xrd 10 (M.1 25) x2 fun x4 =>
      fX4_takesMessage_j48 M p1 x4
def fX4_enterState (M : xM) (p1 : Int32) (p2 : Int32) (p3 : Int32) : Option (xM) :=
  xwI 24 M 7 p1 p2 fun M1 =>
  xwI 24 M1 8 p1 p3 fun M2 =>
  some M2
def fX4_moveTowardsForwarding_j75 (M : xM) (s0 : Int32) (s1 : Int32) (s2 : Int32) : Option (xM) :=
  (fX4_enterState M s2 s1 s0).bind fun z5 =>
  some z5
def fX4_moveTowardsForwarding_j35 (M : xM) (v1 : Int32) (v2 : Int32) : Option (xM) :=
  xrd 24 (M.1 8) v1 fun x2 =>
  xwI 24 M 8 v1 (x2 - (nI 1)) fun M3 =>
  xrd 24 (M3.1 8) v1 fun x4 =>
  if nI 0 < x4 then
    some M3
  else
    if v2 = (nI 2) then
      fX4_moveTowardsForwarding_j75 M3 (nI 2) (v2 + (nI 1)) v1
    else
      fX4_moveTowardsForwarding_j75 M3 (nI 0) (v2 + (nI 1)) v1
def fX4_moveTowardsForwarding (M : xM) (p1 : Int32) : Option (xM) :=
  xrd 24 (M.1 7) p1 fun x1 =>
  if x1 = (nI 1) then
    (fX4_enterState M p1 (nI 2) (nI 2)).bind fun z6 =>
    some z6
  else
    if x1 = (nI 2) then
      fX4_moveTowardsForwarding_j35 M p1 x1
    else
      if x1 = (nI 3) then
        fX4_moveTowardsForwarding_j35 M p1 x1
      else
        some M
def fX4_moveState_j10 (M : xM) (v1 : Int32) : Option (xM) :=
  (fX4_enterState M v1 (nI 1) (nI 0)).bind fun z1 =>
  some z1
def fX4_moveState_j30 (M : xM) (v1 : Int32) : Option (xM) :=
  (fX4_moveTowardsForwarding M v1).bind fun z2 =>
  some z2
def fX4_moveState (M : xM) (p1 : Int32) (p2 : Int32) : Option (xM) :=
  if p2 = (nI 3) then
    fX4_moveState_j10 M p1
  else
    if p2 = (nI 4) then
      fX4_moveState_j10 M p1
    else
      if p2 = (nI 1) then
        fX4_moveState_j30 M p1
      else
        if p2 = (nI 2) then
          fX4_moveState_j30 M p1
        else
          some M
def fX4_moveStates_j61 (M : xM) (v2 : Int32) (s0 : Int32) (b4 : xM → Int32 → Int32 → Option (Int32 × xM)) : Option (Int32 × xM) :=
  b4 M s0 (v2 + (nI 1))
def fX4_moveStates_B4  (k68 : xM → Int32 → Option (Int32 × xM)) (M : xM) (v1 : Int32) (v2 : Int32) (b4 : xM → Int32 → Int32 → Option (Int32 × xM)) : Option (Int32 × xM) :=
  if (M.1 0 2) ≤ v2 then
    k68 M v1
  else
    xrd 24 (M.1 7) v2 fun x1 =>
    xrd 24 (M.1 19) v2 fun x2 =>
    (fX4_moveState M v2 x2).bind fun z3 =>
    if v1 = nI 0 then
      xrd 24 (z3.1 7) v2 fun x4 =>
      if x4 = x1 then
        fX4_moveStates_j61 z3 v2 (nI 0) b4
      else
        fX4_moveStates_j61 z3 v2 (nI 1) b4
    else
      fX4_moveStates_j61 z3 v2 (nI 1) b4
def fX4_moveStates_L4  (k68 : xM → Int32 → Option (Int32 × xM)) : Nat → xM → Int32 → Int32 → Option (Int32 × xM)
  | 0, _, _, _ => none
  | n + 1, M, v1, v2 => fX4_moveStates_B4 k68 M v1 v2 (fun M v1 v2 => fX4_moveStates_L4 k68 n M v1 v2)
def fX4_moveStates (M : xM) : Option (Int32 × xM) :=
  fX4_moveStates_L4 (fun M6 v5 => 
  xzb v5 (some (v5, M6))) 512 M (nI 0) (nI 0)
def fX4_makeTick_B6  (k39 : xM → Option (Int32 × xM)) (M : xM) (v1 : Int32) (b6 : xM → Int32 → Option (Int32 × xM)) : Option (Int32 × xM) :=
  if (M.1 0 2) ≤ v1 then
    k39 M
  else
    (fX4_takesMessage M v1).bind fun z2 =>
    if z2.1 = nI 0 then
      (fX3_ageMessage z2.2 v1).bind fun z3 =>
      b6 z3 (v1 + (nI 1))
    else
      b6 z2.2 (v1 + (nI 1))
def fX4_makeTick_L6  (k39 : xM → Option (Int32 × xM)) : Nat → xM → Int32 → Option (Int32 × xM)
  | 0, _, _ => none
  | n + 1, M, v1 => fX4_makeTick_B6 k39 M v1 (fun M v1 => fX4_makeTick_L6 k39 n M v1)
def fX4_makeTick (M : xM) : Option (Int32 × xM) :=
  (fX4_sendMessages M).bind fun z1 =>
  fX4_makeTick_L6 (fun M4 => 
  (fX0_elect M4).bind fun z5 =>
  (fX4_moveStates z5.2).bind fun z6 =>
  (fX3_ageEntries z6.2).bind fun z7 =>
  xpf z7 0 4 ((z7.1 0 4) + (nI 1)) fun M8 =>
  if z5.1 = nI 0 then
    if z6.1 = nI 0 then
      some ((nI 0), M8)
    else
      some ((nI 1), M8)
  else
    some ((nI 1), M8)) 512 z1 (nI 0)
def fX5_countVertices_B10 (M : xM)  (k41 : Int32 → Option (Int32)) (v1 : Int32) (v2 : Int32) (b10 : Int32 → Int32 → Option (Int32)) : Option (Int32) :=
  if (M.1 0 0) ≤ v2 then
    k41 v1
  else
    (fX3_isBridgeUp M v2).bind fun z1 =>
    if z1 = nI 0 then
      b10 v1 (v2 + (nI 1))
    else
      b10 (v1 + (nI 1)) (v2 + (nI 1))
def fX5_countVertices_L10 (M : xM)  (k41 : Int32 → Option (Int32)) : Nat → Int32 → Int32 → Option (Int32)
  | 0, _, _ => none
  | n + 1, v1, v2 => fX5_countVertices_B10 M k41 v1 v2 (fun v1 v2 => fX5_countVertices_L10 M k41 n v1 v2)
def fX5_countVertices (M : xM) : Option (Int32) :=
  fX5_countVertices_L10 M (fun v2 => 
  some v2) 512 (M.1 0 1) (nI 0)
def fX5_join_B43 (v2 : Int32) (v3 : Int32) (k78 : xM → Option (Int32 × xM)) (M : xM) (v4 : Int32) (b43 : xM → Int32 → Option (Int32 × xM)) : Option (Int32 × xM) :=
  if (nI 18) ≤ v4 then
    k78 M
  else
    xrd 18 (M.1 31) v4 fun x5 =>
    if x5 = v3 then
      xwI 18 M 31 v4 v2 fun M6 =>
      b43 M6 (v4 + (nI 1))
    else
      b43 M (v4 + (nI 1))
def fX5_join_L43 (v2 : Int32) (v3 : Int32) (k78 : xM → Option (Int32 × xM)) : Nat → xM → Int32 → Option (Int32 × xM)
  | 0, _, _ => none
  | n + 1, M, v4 => fX5_join_B43 v2 v3 k78 M v4 (fun M v4 => fX5_join_L43 v2 v3 k78 n M v4)
def fX5_join (M : xM) (p1 : Int32) : Option (Int32 × xM) :=
  xrd 24 (M.1 4) p1 fun x1 =>
  xrd 18 (M.1 31) x1 fun x2 =>
  xrd 24 (M.1 3) p1 fun x3 =>
  xrd 18 (M.1 31) ((nI 10) + x3) fun x4 =>
  if x2 = x4 then
    some ((nI 0), M)
  else
    fX5_join_L43 x2 x4 (fun M7 => 
  some ((nI 1), M7)) 512 M (nI 0)
def fX5_countParts_B2  (k24 : xM → Option (Int32 × xM)) (M : xM) (v1 : Int32) (b2 : xM → Int32 → Option (Int32 × xM)) : Option (Int32 × xM) :=
  if (nI 18) ≤ v1 then
    k24 M
  else
    xwI 18 M 31 v1 v1 fun M1 =>
    b2 M1 (v1 + (nI 1))
def fX5_countParts_L2  (k24 : xM → Option (Int32 × xM)) : Nat → xM → Int32 → Option (Int32 × xM)
  | 0, _, _ => none
  | n + 1, M, v1 => fX5_countParts_B2 k24 M v1 (fun M v1 => fX5_countParts_L2 k24 n M v1)
def fX5_countParts_B31  (k70 : xM → Int32 → Option (Int32 × xM)) (M : xM) (v1 : Int32) (v2 : Int32) (b31 : xM → Int32 → Int32 → Option (Int32 × xM)) : Option (Int32 × xM) :=
  if (M.1 0 2) ≤ v2 then
    k70 M v1
  else
    (fX3_isForwarding M v2).bind fun z4 =>
    if z4 = nI 0 then
      b31 M v1 (v2 + (nI 1))
    else
      (fX5_join M v2).bind fun z5 =>
      if z5.1 = nI 0 then
        b31 z5.2 v1 (v2 + (nI 1))
      else
        b31 z5.2 (v1 + (-1)) (v2 + (nI 1))
def fX5_countParts_L31  (k70 : xM → Int32 → Option (Int32 × xM)) : Nat → xM → Int32 → Int32 → Option (Int32 × xM)
  | 0, _, _, _ => none
  | n + 1, M, v1, v2 => fX5_countParts_B31 k70 M v1 v2 (fun M v1 v2 => fX5_countParts_L31 k70 n M v1 v2)
def fX5_countParts (M : xM) : Option (Int32 × xM) :=
  fX5_countParts_L2 (fun M2 => 
  (fX5_countVertices M2).bind fun z3 =>
  fX5_countParts_L31 (fun M7 v6 => 
  some (v6, M7)) 512 M2 z3 (nI 0)) 512 M (nI 0)
def fX5_countLoops_B4 (M : xM)  (k35 : Int32 → Option (Int32 × xM)) (v1 : Int32) (v2 : Int32) (b4 : Int32 → Int32 → Option (Int32 × xM)) : Option (Int32 × xM) :=
  if (M.1 0 2) ≤ v2 then
    k35 v1
  else
    (fX3_isForwarding M v2).bind fun z1 =>
    if z1 = nI 0 then
      b4 v1 (v2 + (nI 1))
    else
      b4 (v1 + (nI 1)) (v2 + (nI 1))
def fX5_countLoops_L4 (M : xM)  (k35 : Int32 → Option (Int32 × xM)) : Nat → Int32 → Int32 → Option (Int32 × xM)
  | 0, _, _ => none
  | n + 1, v1, v2 => fX5_countLoops_B4 M k35 v1 v2 (fun v1 v2 => fX5_countLoops_L4 M k35 n v1 v2)
def fX5_countLoops (M : xM) : Option (Int32 × xM) :=
  fX5_countLoops_L4 M (fun v2 => 
  (fX5_countVertices M).bind fun z3 =>
  (fX5_countParts M).bind fun z4 =>
  some ((v2 - z3) + z4.1, z4.2)) 512 (nI 0) (nI 0)
def fX6_isPriority (M : xM) (p1 : Int32) : Option (Int32) :=
  if p1 < nI 0 then
    some (nI 0)
  else
    if (nI 15) < p1 then
      some (nI 0)
    else
      some (nI 1)
def fX6_addBridge (M : xM) (p1 : Int32) : Option (Int32 × xM) :=
  (fX6_isPriority M p1).bind fun z1 =>
  if z1 = nI 0 then
    some ((-5), M)
  else
    if (M.1 0 0) < (nI 8) then
      (fX3_appendBridge M p1).bind fun z2 =>
      some (z2.1, z2.2)
    else
      some ((-6), M)
def fX6_addSegment (M : xM) : Option (Int32 × xM) :=
  if (M.1 0 1) < (nI 10) then
    (fX3_appendSegment M).bind fun z1 =>
    some (z1.1, z1.2)
  else
    some ((-6), M)
def fX6_isCost (M : xM) (p1 : Int32) : Option (Int32) :=
  if p1 < (nI 1) then
    some (nI 0)
  else
    if (nI 100) < p1 then
      some (nI 0)
    else
      some (nI 1)
def fX6_addPort (M : xM) (p1 : Int32) (p2 : Int32) (p3 : Int32) : Option (Int32 × xM) :=
  (fX3_hasBridge M p1).bind fun z1 =>
  if z1 = nI 0 then
    some ((-1), M)
  else
    (fX3_hasSegment M p2).bind fun z2 =>
    if z2 = nI 0 then
      some ((-2), M)
    else
      (fX6_isCost M p3).bind fun z3 =>
      if z3 = nI 0 then
        some ((-5), M)
      else
        if (M.1 0 2) < (nI 24) then
          (fX3_appendPort M p1 p2 p3).bind fun z4 =>
          some (z4.1, z4.2)
        else
          some ((-6), M)
def fX6_addStation (M : xM) (p1 : Int32) : Option (Int32 × xM) :=
  (fX3_hasSegment M p1).bind fun z1 =>
  if z1 = nI 0 then
    some ((-2), M)
  else
    if (M.1 0 3) < (nI 8) then
      (fX3_appendStation M p1).bind fun z2 =>
      some (z2.1, z2.2)
    else
      some ((-6), M)
def fX6_setPriority (M : xM) (p1 : Int32) (p2 : Int32) : Option (Int32 × xM) :=
  (fX3_hasBridge M p1).bind fun z1 =>
  if z1 = nI 0 then
    some ((-1), M)
  else
    (fX6_isPriority M p2).bind fun z2 =>
    if z2 = nI 0 then
      some ((-5), M)
    else
      xrd 8 (M.1 1) p1 fun x3 =>
      xwI 8 M 1 p1 p2 fun M4 =>
      some (x3, M4)
def fX6_setCost (M : xM) (p1 : Int32) (p2 : Int32) : Option (Int32 × xM) :=
  (fX3_hasPort M p1).bind fun z1 =>
  if z1 = nI 0 then
    some ((-3), M)
  else
    (fX6_isCost M p2).bind fun z2 =>
    if z2 = nI 0 then
      some ((-5), M)
    else
      xrd 24 (M.1 5) p1 fun x3 =>
      xwI 24 M 5 p1 p2 fun M4 =>
      some (x3, M4)
def fX6_setBridge_j27 (M : xM) (s0 : Int32) (s1 : Int32) : Option (Int32 × xM) :=
  (fX3_switchBridge M s1 s0).bind fun z2 =>
  some (z2.1, z2.2)
def fX6_setBridge (M : xM) (p1 : Int32) (p2 : Int32) : Option (Int32 × xM) :=
  (fX3_hasBridge M p1).bind fun z1 =>
  if z1 = nI 0 then
    some ((-1), M)
  else
    if p2 = nI 0 then
      fX6_setBridge_j27 M (nI 0) p1
    else
      fX6_setBridge_j27 M (nI 1) p1
def fX6_setPort_j28 (M : xM) (s0 : Int32) (s1 : Int32) : Option (Int32 × xM) :=
  (fX3_switchPort M s1 s0).bind fun z2 =>
  some (z2.1, z2.2)
def fX6_setPort (M : xM) (p1 : Int32) (p2 : Int32) : Option (Int32 × xM) :=
  (fX3_hasPort M p1).bind fun z1 =>
  if z1 = nI 0 then
    some ((-3), M)
  else
    if p2 = nI 0 then
      fX6_setPort_j28 M (nI 0) p1
    else
      fX6_setPort_j28 M (nI 1) p1
def fX6_moveStation (M : xM) (p1 : Int32) (p2 : Int32) : Option (Int32 × xM) :=
  (fX3_hasStation M p1).bind fun z1 =>
  if z1 = nI 0 then
    some ((-4), M)
  else
    (fX3_hasSegment M p2).bind fun z2 =>
    if z2 = nI 0 then
      some ((-2), M)
    else
      xrd 8 (M.1 11) p1 fun x3 =>
      xwI 8 M 11 p1 p2 fun M4 =>
      some (x3, M4)
def fX6_tick_B24 (v1 : Int32) (k43 : xM → Option (Int32 × xM)) (M : xM) (v2 : Int32) (b24 : xM → Int32 → Option (Int32 × xM)) : Option (Int32 × xM) :=
  if v1 ≤ v2 then
    k43 M
  else
    (fX4_makeTick M).bind fun z2 =>
    b24 z2.2 (v2 + (nI 1))
def fX6_tick_L24 (v1 : Int32) (k43 : xM → Option (Int32 × xM)) : Nat → xM → Int32 → Option (Int32 × xM)
  | 0, _, _ => none
  | n + 1, M, v2 => fX6_tick_B24 v1 k43 M v2 (fun M v2 => fX6_tick_L24 v1 k43 n M v2)
def fX6_tick (M : xM) (p1 : Int32) : Option (Int32 × xM) :=
  if p1 < (nI 1) then
    some ((-5), M)
  else
    if p1 ≤ (nI 50) then
      (fX0_elect M).bind fun z1 =>
      fX6_tick_L24 p1 (fun M3 => 
  some (M3.1 0 4, M3)) 512 z1.2 (nI 0)
    else
      some ((-5), M)
def fX6_settle_j54 (M : xM) (v1 : Int32) (v3 : Int32) (s0 : Int32) (b28 : xM → Int32 → Int32 → Option (Int32 × xM)) : Option (Int32 × xM) :=
  if s0 < (nI 8) then
    b28 M s0 (v3 + (nI 1))
  else
    some (v3, M)
def fX6_settle_B28 (v1 : Int32) (k69 : xM → Option (Int32 × xM)) (M : xM) (v2 : Int32) (v3 : Int32) (b28 : xM → Int32 → Int32 → Option (Int32 × xM)) : Option (Int32 × xM) :=
  if v1 < v3 then
    k69 M
  else
    (fX4_makeTick M).bind fun z2 =>
    if z2.1 = nI 0 then
      fX6_settle_j54 z2.2 v1 v3 (v2 + (nI 1)) b28
    else
      fX6_settle_j54 z2.2 v1 v3 (nI 0) b28
def fX6_settle_L28 (v1 : Int32) (k69 : xM → Option (Int32 × xM)) : Nat → xM → Int32 → Int32 → Option (Int32 × xM)
  | 0, _, _, _ => none
  | n + 1, M, v2, v3 => fX6_settle_B28 v1 k69 M v2 v3 (fun M v2 v3 => fX6_settle_L28 v1 k69 n M v2 v3)
def fX6_settle (M : xM) (p1 : Int32) : Option (Int32 × xM) :=
  if p1 < (nI 8) then
    some ((-5), M)
  else
    if p1 ≤ (nI 200) then
      (fX0_elect M).bind fun z1 =>
      fX6_settle_L28 p1 (fun M3 => 
  some ((-7), M3)) 512 z1.2 (nI 0) (nI 1)
    else
      some ((-5), M)
def fX6_identifier (M : xM) (p1 : Int32) : Option (Int32) :=
  (fX3_hasBridge M p1).bind fun z1 =>
  if z1 = nI 0 then
    some (-1)
  else
    (fX3_identifierOf M p1).bind fun z2 =>
    some z2
def fX6_root (M : xM) (p1 : Int32) : Option (Int32 × xM) :=
  (fX3_hasBridge M p1).bind fun z1 =>
  if z1 = nI 0 then
    some ((-1), M)
  else
    (fX3_isBridgeUp M p1).bind fun z2 =>
    if z2 = nI 0 then
      some ((-9), M)
    else
      (fX0_elect M).bind fun z3 =>
      xrd 8 (z3.2.1 16) p1 fun x4 =>
      some (x4, z3.2)
def fX6_rootCost (M : xM) (p1 : Int32) : Option (Int32 × xM) :=
  (fX3_hasBridge M p1).bind fun z1 =>
  if z1 = nI 0 then
    some ((-1), M)
  else
    (fX3_isBridgeUp M p1).bind fun z2 =>
    if z2 = nI 0 then
      some ((-9), M)
    else
      (fX0_elect M).bind fun z3 =>
      xrd 8 (z3.2.1 17) p1 fun x4 =>
      some (x4, z3.2)
def fX6_rootPort (M : xM) (p1 : Int32) : Option (Int32 × xM) :=
  (fX3_hasBridge M p1).bind fun z1 =>
  if z1 = nI 0 then
    some ((-1), M)
  else
    (fX0_elect M).bind fun z2 =>
    xrd 8 (z2.2.1 18) p1 fun x3 =>
    if x3 = (-1) then
      some ((-9), z2.2)
    else
      some (x3, z2.2)
def fX6_role (M : xM) (p1 : Int32) : Option (Int32 × xM) :=
  (fX3_hasPort M p1).bind fun z1 =>
  if z1 = nI 0 then
    some ((-3), M)
  else
    (fX0_elect M).bind fun z2 =>
    xrd 24 (z2.2.1 19) p1 fun x3 =>
    some (x3, z2.2)
def fX6_state (M : xM) (p1 : Int32) : Option (Int32) :=
  (fX3_hasPort M p1).bind fun z1 =>
  if z1 = nI 0 then
    some (-3)
  else
    xrd 24 (M.1 7) p1 fun x2 =>
    some x2
def fX6_stored (M : xM) (p1 : Int32) (p2 : Int32) : Option (Int32) :=
  (fX3_hasPort M p1).bind fun z1 =>
  if z1 = nI 0 then
    some (-3)
  else
    if p2 < nI 0 then
      some (-5)
    else
      if p2 ≤ (nI 4) then
        (fX3_storesMessage M p1).bind fun z2 =>
        if z2 = nI 0 then
          some (-9)
        else
          xrd 24 (M.2 9) p1 fun x3 =>
          if p2 = nI 0 then
            (fX2_rootOf M x3).bind fun z4 =>
            some z4
          else
            if p2 = nI 1 then
              (fX2_costOf M x3).bind fun z5 =>
              some z5
            else
              if p2 = nI 2 then
                (fX2_senderOf M x3).bind fun z6 =>
                some z6
              else
                if p2 = nI 3 then
                  (fX2_senderPortOf M x3).bind fun z7 =>
                  some z7
                else
                  xrd 24 (M.1 10) p1 fun x8 =>
                  some x8
      else
        some (-5)
def fX6_portsIn_B16 (M : xM) (v1 : Int32) (k52 : Int32 → Option (Int32)) (v2 : Int32) (v3 : Int32) (b16 : Int32 → Int32 → Option (Int32)) : Option (Int32) :=
  if (M.1 0 2) ≤ v3 then
    k52 v2
  else
    xrd 24 (M.1 7) v3 fun x1 =>
    if x1 = v1 then
      b16 (v2 ||| ((nI 1) <<< (v3 &&& 31))) (v3 + (nI 1))
    else
      b16 v2 (v3 + (nI 1))
def fX6_portsIn_L16 (M : xM) (v1 : Int32) (k52 : Int32 → Option (Int32)) : Nat → Int32 → Int32 → Option (Int32)
  | 0, _, _ => none
  | n + 1, v2, v3 => fX6_portsIn_B16 M v1 k52 v2 v3 (fun v2 v3 => fX6_portsIn_L16 M v1 k52 n v2 v3)
def fX6_portsIn (M : xM) (p1 : Int32) : Option (Int32) :=
  if p1 < nI 0 then
    some (-5)
  else
    if p1 ≤ (nI 4) then
      fX6_portsIn_L16 M p1 (fun v2 => 
  some v2) 512 (nI 0) (nI 0)
    else
      some (-5)
def fX6_parts (M : xM) : Option (Int32 × xM) :=
  (fX5_countParts M).bind fun z1 =>
  some (z1.1, z1.2)
def fX6_loops (M : xM) : Option (Int32 × xM) :=
  (fX5_countLoops M).bind fun z1 =>
  some (z1.1, z1.2)
def fX6_send_j33 (M : xM) (v1 : Int32) (v2 : Int32) : Option (Int32 × xM) :=
  (fX1_deliver M v1 v2).bind fun z2 =>
  some (z2.1, z2.2)
def fX6_send (M : xM) (p1 : Int32) (p2 : Int32) : Option (Int32 × xM) :=
  (fX3_hasStation M p1).bind fun z1 =>
  if z1 = nI 0 then
    some ((-4), M)
  else
    if p2 = (-1) then
      fX6_send_j33 M p1 p2
    else
      (fX3_hasStation M p2).bind fun z3 =>
      if z3 = nI 0 then
        some ((-4), M)
      else
        fX6_send_j33 M p1 p2
def fX6_transmissions (M : xM) (p1 : Int32) : Option (Int32) :=
  (fX3_hasSegment M p1).bind fun z1 =>
  if z1 = nI 0 then
    some (-2)
  else
    xrd 10 (M.1 14) p1 fun x2 =>
    some x2
def fX6_entry (M : xM) (p1 : Int32) (p2 : Int32) : Option (Int32) :=
  (fX3_hasBridge M p1).bind fun z1 =>
  if z1 = nI 0 then
    some (-1)
  else
    (fX3_hasStation M p2).bind fun z2 =>
    if z2 = nI 0 then
      some (-4)
    else
      (fX3_learnedPort M p1 p2).bind fun z3 =>
      if z3 = (-1) then
        some (-9)
      else
        some z3
def fX6_count (M : xM) (p1 : Int32) : Option (Int32) :=
  if p1 = nI 0 then
    some (M.1 0 0)
  else
    if p1 = nI 1 then
      some (M.1 0 1)
    else
      if p1 = nI 2 then
        some (M.1 0 2)
      else
        if p1 = nI 3 then
          some (M.1 0 3)
        else
          if p1 = nI 4 then
            some (M.1 0 4)
          else
            some (-5)
def fX6_isSlot (M : xM) (p1 : Int32) : Option (Int32) :=
  if p1 < nI 0 then
    some (nI 0)
  else
    if (nI 2) ≤ p1 then
      some (nI 0)
    else
      some (nI 1)
def fX7_in (M : xM) (p1 : Int32) (p2 : Int32) (p3 : Int32) : Option (Int32) :=
  if p1 < p2 then
    some (nI 0)
  else
    if p3 < p1 then
      some (nI 0)
    else
      some (nI 1)
def fX7_isBridge (M : xM) (p1 : Int32) : Option (Int32) :=
  xrd 431 (M.1 1) (nI 0) fun x1 =>
  (fX7_in M p1 (nI 0) (x1 - (nI 1))).bind fun z2 =>
  xzb z2 (some z2)
def fX7_isSegment (M : xM) (p1 : Int32) : Option (Int32) :=
  xrd 431 (M.1 1) (nI 1) fun x1 =>
  (fX7_in M p1 (nI 0) (x1 - (nI 1))).bind fun z2 =>
  xzb z2 (some z2)
def fX7_isPort (M : xM) (p1 : Int32) : Option (Int32) :=
  xrd 431 (M.1 1) (nI 2) fun x1 =>
  (fX7_in M p1 (nI 0) (x1 - (nI 1))).bind fun z2 =>
  xzb z2 (some z2)
def fX7_isStation (M : xM) (p1 : Int32) : Option (Int32) :=
  xrd 431 (M.1 1) (nI 3) fun x1 =>
  (fX7_in M p1 (nI 0) (x1 - (nI 1))).bind fun z2 =>
  xzb z2 (some z2)
def fX7_ports (M : xM) : Option (Int32) :=
  xrd 431 (M.1 1) (nI 2) fun x1 =>
  some x1
def fX7_bridgeOf (M : xM) (p1 : Int32) : Option (Int32) :=
  xrd 431 (M.1 1) ((nI 21) + p1) fun x1 =>
  some x1
def fX7_isActive (M : xM) (p1 : Int32) : Option (Int32) :=
  xrd 431 (M.1 1) ((nI 93) + p1) fun x1 =>
  if x1 = (nI 1) then
    (fX7_bridgeOf M p1).bind fun z2 =>
    xrd 431 (M.1 1) ((nI 13) + z2) fun x3 =>
    if x3 = (nI 1) then
      some (nI 1)
    else
      some (nI 0)
  else
    some (nI 0)
def fX7_idOf (M : xM) (p1 : Int32) : Option (Int32) :=
  xrd 431 (M.1 1) ((nI 5) + p1) fun x1 =>
  some (((nI 16) * x1) + p1)
def fX7_message (M : xM) (p1 : Int32) (p2 : Int32) : Option (Int32) :=
  xrd 431 (M.1 1) (((nI 165) + ((nI 5) * p1)) + p2) fun x1 =>
  some x1
def fX7_stores (M : xM) (p1 : Int32) : Option (Int32) :=
  (fX7_message M p1 (nI 4)).bind fun z1 =>
  if z1 ≤ nI 0 then
    some (nI 0)
  else
    some (nI 1)
def fX7_addBridge (M : xM) (p1 : Int32) : Option (Int32 × xM) :=
  (fX7_in M p1 (nI 0) (nI 15)).bind fun z1 =>
  if z1 = nI 0 then
    some ((-5), M)
  else
    xrd 431 (M.1 1) (nI 0) fun x2 =>
    if x2 = (nI 8) then
      some ((-6), M)
    else
      xrd 431 (M.1 1) (nI 0) fun x3 =>
      xwI 431 M 1 ((nI 5) + x3) p1 fun M4 =>
      xwI 431 M4 1 ((nI 13) + x3) (nI 1) fun M5 =>
      xrd 431 (M5.1 1) (nI 0) fun x6 =>
      xwI 431 M5 1 (nI 0) (x6 + (nI 1)) fun M7 =>
      some (x3, M7)
def fX7_addSegment (M : xM) : Option (Int32 × xM) :=
  xrd 431 (M.1 1) (nI 1) fun x1 =>
  if x1 = (nI 10) then
    some ((-6), M)
  else
    xrd 431 (M.1 1) (nI 1) fun x2 =>
    xwI 431 M 1 (nI 1) (x2 + (nI 1)) fun M3 =>
    xrd 431 (M3.1 1) (nI 1) fun x4 =>
    some (x4 - (nI 1), M3)
def fX7_addPort_j119 (M : xM) (v4 : Int32) (s0 : Int32) (s1 : Int32) : Option (Int32 × xM) :=
  xwI 431 M 1 s1 s0 fun M11 =>
  xrd 431 (M11.1 1) (nI 2) fun x12 =>
  xwI 431 M11 1 (nI 2) (x12 + (nI 1)) fun M13 =>
  some (v4, M13)
def fX7_addPort (M : xM) (p1 : Int32) (p2 : Int32) (p3 : Int32) : Option (Int32 × xM) :=
  (fX7_isBridge M p1).bind fun z1 =>
  if z1 = nI 0 then
    some ((-1), M)
  else
    (fX7_isSegment M p2).bind fun z2 =>
    if z2 = nI 0 then
      some ((-2), M)
    else
      (fX7_in M p3 (nI 1) (nI 100)).bind fun z3 =>
      if z3 = nI 0 then
        some ((-5), M)
      else
        (fX7_ports M).bind fun z4 =>
        if z4 = (nI 24) then
          some ((-6), M)
        else
          (fX7_ports M).bind fun z5 =>
          xwI 431 M 1 ((nI 21) + z5) p1 fun M6 =>
          xwI 431 M6 1 ((nI 45) + z5) p2 fun M7 =>
          xwI 431 M7 1 ((nI 69) + z5) p3 fun M8 =>
          xwI 431 M8 1 ((nI 93) + z5) (nI 1) fun M9 =>
          (fX7_isActive M9 z5).bind fun z10 =>
          if z10 = nI 0 then
            fX7_addPort_j119 M9 z5 (nI 0) ((nI 117) + z5)
          else
            fX7_addPort_j119 M9 z5 (nI 1) ((nI 117) + z5)
def fX7_addStation (M : xM) (p1 : Int32) : Option (Int32 × xM) :=
  (fX7_isSegment M p1).bind fun z1 =>
  if z1 = nI 0 then
    some ((-2), M)
  else
    xrd 431 (M.1 1) (nI 3) fun x2 =>
    if x2 = (nI 8) then
      some ((-6), M)
    else
      xrd 431 (M.1 1) (nI 3) fun x3 =>
      xwI 431 M 1 ((nI 285) + x3) p1 fun M4 =>
      xrd 431 (M4.1 1) (nI 3) fun x5 =>
      xwI 431 M4 1 (nI 3) (x5 + (nI 1)) fun M6 =>
      xrd 431 (M6.1 1) (nI 3) fun x7 =>
      some (x7 - (nI 1), M6)
def fX7_set (M : xM) (p1 : Int32) (p2 : Int32) : Option (Int32 × xM) :=
  xrd 431 (M.1 1) p1 fun x1 =>
  xwI 431 M 1 p1 p2 fun M2 =>
  some (x1, M2)
def fX7_setPriority (M : xM) (p1 : Int32) (p2 : Int32) : Option (Int32 × xM) :=
  (fX7_isBridge M p1).bind fun z1 =>
  if z1 = nI 0 then
    some ((-1), M)
  else
    (fX7_in M p2 (nI 0) (nI 15)).bind fun z2 =>
    if z2 = nI 0 then
      some ((-5), M)
    else
      (fX7_set M ((nI 5) + p1) p2).bind fun z3 =>
      some (z3.1, z3.2)
def fX7_setCost (M : xM) (p1 : Int32) (p2 : Int32) : Option (Int32 × xM) :=
  (fX7_isPort M p1).bind fun z1 =>
  if z1 = nI 0 then
    some ((-3), M)
  else
    (fX7_in M p2 (nI 1) (nI 100)).bind fun z2 =>
    if z2 = nI 0 then
      some ((-5), M)
    else
      (fX7_set M ((nI 69) + p1) p2).bind fun z3 =>
      some (z3.1, z3.2)
def fX7_turn_B48 (v1 : Int32) (v3 : Int32) (k106 : xM → Option (xM)) (M : xM) (v4 : Int32) (b48 : xM → Int32 → Option (xM)) : Option (xM) :=
  if (nI 64) ≤ v4 then
    k106 M
  else
    if v3 = nI 0 then
      xrd 431 (M.1 1) ((nI 357) + v4) fun x4 =>
      if x4 ≤ nI 0 then
        b48 M (v4 + (nI 1))
      else
        xrd 431 (M.1 1) ((nI 293) + v4) fun x5 =>
        if x5 = v1 then
          xwI 431 M 1 ((nI 357) + v4) (nI 0) fun M6 =>
          b48 M6 (v4 + (nI 1))
        else
          b48 M (v4 + (nI 1))
    else
      b48 M (v4 + (nI 1))
def fX7_turn_L48 (v1 : Int32) (v3 : Int32) (k106 : xM → Option (xM)) : Nat → xM → Int32 → Option (xM)
  | 0, _, _ => none
  | n + 1, M, v4 => fX7_turn_B48 v1 v3 k106 M v4 (fun M v4 => fX7_turn_L48 v1 v3 k106 n M v4)
def fX7_turn_j44 (M : xM) (v1 : Int32) (v3 : Int32) (s0 : Int32) (s1 : Int32) : Option (xM) :=
  xwI 431 M 1 s1 s0 fun M3 =>
  fX7_turn_L48 v1 v3 (fun M7 => 
  some M7) 512 M3 (nI 0)
def fX7_turn (M : xM) (p1 : Int32) (p2 : Int32) : Option (xM) :=
  (fX7_isActive M p1).bind fun z1 =>
  if z1 = p2 then
    some M
  else
    xwI 431 M 1 (((nI 165) + ((nI 5) * p1)) + (nI 4)) (nI 0) fun M2 =>
    if z1 = nI 0 then
      fX7_turn_j44 M2 p1 z1 (nI 0) ((nI 117) + p1)
    else
      fX7_turn_j44 M2 p1 z1 (nI 1) ((nI 117) + p1)
def fX7_turnAll_B2 (v1 : Int32) (v2 : Int32) (k27 : xM → Option (Int32 × xM)) (M : xM) (v3 : Int32) (b2 : xM → Int32 → Option (Int32 × xM)) : Option (Int32 × xM) :=
  (fX7_ports M).bind fun z1 =>
  if z1 ≤ v3 then
    k27 M
  else
    (fX7_isActive M v3).bind fun z2 =>
    xwI 24 M 4 v3 (vp_nar .boolean z2) fun M3 =>
    b2 M3 (v3 + (nI 1))
def fX7_turnAll_L2 (v1 : Int32) (v2 : Int32) (k27 : xM → Option (Int32 × xM)) : Nat → xM → Int32 → Option (Int32 × xM)
  | 0, _, _ => none
  | n + 1, M, v3 => fX7_turnAll_B2 v1 v2 k27 M v3 (fun M v3 => fX7_turnAll_L2 v1 v2 k27 n M v3)
def fX7_turnAll_B45 (v3 : Int32) (k73 : xM → Option (Int32 × xM)) (M : xM) (v4 : Int32) (b45 : xM → Int32 → Option (Int32 × xM)) : Option (Int32 × xM) :=
  (fX7_ports M).bind fun z6 =>
  if z6 ≤ v4 then
    k73 M
  else
    xrd 24 (M.1 4) v4 fun x7 =>
    (fX7_turn M v4 x7).bind fun z8 =>
    b45 z8 (v4 + (nI 1))
def fX7_turnAll_L45 (v3 : Int32) (k73 : xM → Option (Int32 × xM)) : Nat → xM → Int32 → Option (Int32 × xM)
  | 0, _, _ => none
  | n + 1, M, v4 => fX7_turnAll_B45 v3 k73 M v4 (fun M v4 => fX7_turnAll_L45 v3 k73 n M v4)
def fX7_turnAll_j38 (M : xM) (s0 : Int32) (s1 : Int32) : Option (Int32 × xM) :=
  (fX7_set M s1 s0).bind fun z5 =>
  fX7_turnAll_L45 z5.1 (fun M9 => 
  some (z5.1, M9)) 512 z5.2 (nI 0)
def fX7_turnAll (M : xM) (p1 : Int32) (p2 : Int32) : Option (Int32 × xM) :=
  fX7_turnAll_L2 p1 p2 (fun M4 => 
  if p2 = nI 0 then
    fX7_turnAll_j38 M4 (nI 0) p1
  else
    fX7_turnAll_j38 M4 (nI 1) p1) 512 M (nI 0)
def fX7_setBridge (M : xM) (p1 : Int32) (p2 : Int32) : Option (Int32 × xM) :=
  (fX7_isBridge M p1).bind fun z1 =>
  if z1 = nI 0 then
    some ((-1), M)
  else
    (fX7_turnAll M ((nI 13) + p1) p2).bind fun z2 =>
    some (z2.1, z2.2)
def fX7_setPort (M : xM) (p1 : Int32) (p2 : Int32) : Option (Int32 × xM) :=
  (fX7_isPort M p1).bind fun z1 =>
  if z1 = nI 0 then
    some ((-3), M)
  else
    (fX7_turnAll M ((nI 93) + p1) p2).bind fun z2 =>
    some (z2.1, z2.2)
def fX7_moveStation (M : xM) (p1 : Int32) (p2 : Int32) : Option (Int32 × xM) :=
  (fX7_isStation M p1).bind fun z1 =>
  if z1 = nI 0 then
    some ((-4), M)
  else
    (fX7_isSegment M p2).bind fun z2 =>
    if z2 = nI 0 then
      some ((-2), M)
    else
      (fX7_set M ((nI 285) + p1) p2).bind fun z3 =>
      some (z3.1, z3.2)
def fX7_isBetterOffer (M : xM) (p1 : Int32) (p2 : Int32) : Option (Int32) :=
  (fX7_message M p1 (nI 1)).bind fun z1 =>
  xrd 431 (M.1 1) ((nI 69) + p1) fun x2 =>
  (fX7_message M p2 (nI 1)).bind fun z3 =>
  xrd 431 (M.1 1) ((nI 69) + p2) fun x4 =>
  (fX7_message M p1 (nI 0)).bind fun z5 =>
  (fX7_message M p2 (nI 0)).bind fun z6 =>
  if z5 = z6 then
    if (z1 + x2) = (z3 + x4) then
      (fX7_message M p1 (nI 2)).bind fun z7 =>
      (fX7_message M p2 (nI 2)).bind fun z8 =>
      if z7 = z8 then
        (fX7_message M p1 (nI 3)).bind fun z9 =>
        (fX7_message M p2 (nI 3)).bind fun z10 =>
        if z9 = z10 then
          if p2 ≤ p1 then
            some (nI 0)
          else
            some (nI 1)
        else
          (fX7_message M p1 (nI 3)).bind fun z11 =>
          (fX7_message M p2 (nI 3)).bind fun z12 =>
          if z12 ≤ z11 then
            some (nI 0)
          else
            some (nI 1)
      else
        (fX7_message M p1 (nI 2)).bind fun z13 =>
        (fX7_message M p2 (nI 2)).bind fun z14 =>
        if z14 ≤ z13 then
          some (nI 0)
        else
          some (nI 1)
    else
      if (z3 + x4) ≤ (z1 + x2) then
        some (nI 0)
      else
        some (nI 1)
  else
    (fX7_message M p1 (nI 0)).bind fun z15 =>
    (fX7_message M p2 (nI 0)).bind fun z16 =>
    if z16 ≤ z15 then
      some (nI 0)
    else
      some (nI 1)
def fX7_layRoot_j82 (M : xM) (v1 : Int32) (v3 : Int32) (s0 : Int32) (b5 : Int32 → Int32 → Option (xM)) : Option (xM) :=
  b5 s0 (v3 + (nI 1))
def fX7_layRoot_j57 (M : xM) (v1 : Int32) (v2 : Int32) (v3 : Int32) (s0 : Int32) (b5 : Int32 → Int32 → Option (xM)) : Option (xM) :=
  if s0 = nI 0 then
    fX7_layRoot_j82 M v1 v3 v2 b5
  else
    if v2 < nI 0 then
      fX7_layRoot_j82 M v1 v3 v3 b5
    else
      (fX7_isBetterOffer M v3 v2).bind fun z3 =>
      if z3 = nI 0 then
        fX7_layRoot_j82 M v1 v3 v2 b5
      else
        fX7_layRoot_j82 M v1 v3 v3 b5
def fX7_layRoot_B5 (M : xM) (v1 : Int32) (k89 : Int32 → Option (xM)) (v2 : Int32) (v3 : Int32) (b5 : Int32 → Int32 → Option (xM)) : Option (xM) :=
  (fX7_ports M).bind fun z1 =>
  if z1 ≤ v3 then
    k89 v2
  else
    (fX7_bridgeOf M v3).bind fun z2 =>
    if z2 = v1 then
      (fX7_isActive M v3).bind fun z4 =>
      if z4 = nI 0 then
        fX7_layRoot_j57 M v1 v2 v3 (nI 0) b5
      else
        (fX7_stores M v3).bind fun z5 =>
        if z5 = nI 0 then
          fX7_layRoot_j57 M v1 v2 v3 (nI 0) b5
        else
          (fX7_message M v3 (nI 2)).bind fun z6 =>
          (fX7_idOf M v1).bind fun z7 =>
          if z6 = z7 then
            fX7_layRoot_j57 M v1 v2 v3 (nI 0) b5
          else
            fX7_layRoot_j57 M v1 v2 v3 (nI 1) b5
    else
      fX7_layRoot_j57 M v1 v2 v3 (nI 0) b5
def fX7_layRoot_L5 (M : xM) (v1 : Int32) (k89 : Int32 → Option (xM)) : Nat → Int32 → Int32 → Option (xM)
  | 0, _, _ => none
  | n + 1, v2, v3 => fX7_layRoot_B5 M v1 k89 v2 v3 (fun v2 v3 => fX7_layRoot_L5 M v1 k89 n v2 v3)
def fX7_layRoot_j182 (M : xM) (s0 : Int32) (s1 : Int32) : Option (xM) :=
  xwI 8 M 7 s1 s0 fun M12 =>
  some M12
def fX7_layRoot_j152 (M : xM) (v1 : Int32) (v2 : Int32) (v3 : Int32) (s0 : Int32) (s1 : Int32) : Option (xM) :=
  xwI 8 M 6 s1 s0 fun M11 =>
  if v3 = nI 0 then
    fX7_layRoot_j182 M11 (nI 0) v1
  else
    (fX7_message M11 v2 (nI 1)).bind fun z13 =>
    xrd 431 (M11.1 1) ((nI 69) + v2) fun x14 =>
    fX7_layRoot_j182 M11 (z13 + x14) v1
def fX7_layRoot_j128 (M : xM) (v1 : Int32) (v2 : Int32) (v3 : Int32) (s0 : Int32) (s1 : Int32) : Option (xM) :=
  xwI 8 M 5 s1 s0 fun M9 =>
  if v3 = nI 0 then
    (fX7_idOf M9 v1).bind fun z10 =>
    fX7_layRoot_j152 M9 v1 v2 v3 z10 v1
  else
    (fX7_message M9 v2 (nI 0)).bind fun z15 =>
    fX7_layRoot_j152 M9 v1 v2 v3 z15 v1
def fX7_layRoot_j112 (M : xM) (v1 : Int32) (v2 : Int32) (s0 : Int32) : Option (xM) :=
  if s0 = nI 0 then
    fX7_layRoot_j128 M v1 v2 s0 (-9) v1
  else
    fX7_layRoot_j128 M v1 v2 s0 v2 v1
def fX7_layRoot (M : xM) (p1 : Int32) : Option (xM) :=
  fX7_layRoot_L5 M p1 (fun v8 => 
  if v8 < nI 0 then
    fX7_layRoot_j112 M p1 v8 (nI 0)
  else
    (fX7_message M v8 (nI 0)).bind fun z16 =>
    (fX7_idOf M p1).bind fun z17 =>
    if z17 ≤ z16 then
      fX7_layRoot_j112 M p1 v8 (nI 0)
    else
      fX7_layRoot_j112 M p1 v8 (nI 1)) 512 (-9) (nI 0)
def fX7_isBetter (M : xM) (p1 : Int32) (p2 : Int32) (p3 : Int32) (p4 : Int32) (p5 : Int32) (p6 : Int32) (p7 : Int32) (p8 : Int32) : Option (Int32) :=
  if p1 = p5 then
    if p2 = p6 then
      if p3 = p7 then
        if p8 ≤ p4 then
          some (nI 0)
        else
          some (nI 1)
      else
        if p7 ≤ p3 then
          some (nI 0)
        else
          some (nI 1)
    else
      if p6 ≤ p2 then
        some (nI 0)
      else
        some (nI 1)
  else
    if p5 ≤ p1 then
      some (nI 0)
    else
      some (nI 1)
def fX7_isOwnBetter (M : xM) (p1 : Int32) : Option (Int32) :=
  (fX7_bridgeOf M p1).bind fun z1 =>
  xrd 8 (M.1 6) z1 fun x2 =>
  xrd 8 (M.1 7) z1 fun x3 =>
  (fX7_idOf M z1).bind fun z4 =>
  (fX7_message M p1 (nI 0)).bind fun z5 =>
  (fX7_message M p1 (nI 1)).bind fun z6 =>
  (fX7_message M p1 (nI 2)).bind fun z7 =>
  (fX7_message M p1 (nI 3)).bind fun z8 =>
  (fX7_isBetter M x2 x3 z4 p1 z5 z6 z7 z8).bind fun z9 =>
  xzb z9 (some z9)
def fX7_roleOf (M : xM) (p1 : Int32) : Option (Int32) :=
  (fX7_isActive M p1).bind fun z1 =>
  if z1 = nI 0 then
    some (nI 0)
  else
    (fX7_bridgeOf M p1).bind fun z2 =>
    xrd 8 (M.1 5) z2 fun x3 =>
    if x3 = p1 then
      some (nI 1)
    else
      (fX7_stores M p1).bind fun z4 =>
      if z4 = nI 0 then
        some (nI 2)
      else
        (fX7_isOwnBetter M p1).bind fun z5 =>
        if z5 = nI 0 then
          (fX7_message M p1 (nI 2)).bind fun z6 =>
          (fX7_idOf M z2).bind fun z7 =>
          if z6 = z7 then
            some (nI 4)
          else
            some (nI 3)
        else
          some (nI 2)
def fX7_layRoles_B2  (k23 : xM → Option (xM)) (M : xM) (v1 : Int32) (b2 : xM → Int32 → Option (xM)) : Option (xM) :=
  xrd 431 (M.1 1) (nI 0) fun x1 =>
  if x1 ≤ v1 then
    k23 M
  else
    (fX7_layRoot M v1).bind fun z2 =>
    b2 z2 (v1 + (nI 1))
def fX7_layRoles_L2  (k23 : xM → Option (xM)) : Nat → xM → Int32 → Option (xM)
  | 0, _, _ => none
  | n + 1, M, v1 => fX7_layRoles_B2 k23 M v1 (fun M v1 => fX7_layRoles_L2 k23 n M v1)
def fX7_layRoles_B25  (k50 : xM → Option (xM)) (M : xM) (v1 : Int32) (b25 : xM → Int32 → Option (xM)) : Option (xM) :=
  (fX7_ports M).bind fun z4 =>
  if z4 ≤ v1 then
    k50 M
  else
    (fX7_roleOf M v1).bind fun z5 =>
    xwI 24 M 8 v1 z5 fun M6 =>
    b25 M6 (v1 + (nI 1))
def fX7_layRoles_L25  (k50 : xM → Option (xM)) : Nat → xM → Int32 → Option (xM)
  | 0, _, _ => none
  | n + 1, M, v1 => fX7_layRoles_B25 k50 M v1 (fun M v1 => fX7_layRoles_L25 k50 n M v1)
def fX7_layRoles (M : xM) : Option (xM) :=
  fX7_layRoles_L2 (fun M3 => 
  fX7_layRoles_L25 (fun M7 => 
  some M7) 512 M3 (nI 0)) 512 M (nI 0)
def fX7_sendAll_j69 (M : xM) (v1 : Int32) (v2 : Int32) (s0 : Int32) (s1 : Int32) (b2 : xM → Int32 → Option (xM)) : Option (xM) :=
  xwI 24 M 9 s1 s0 fun M7 =>
  xrd 8 (M7.1 6) v2 fun x8 =>
  xwI 24 M7 10 v1 x8 fun M9 =>
  xrd 8 (M9.1 7) v2 fun x10 =>
  xwI 24 M9 11 v1 x10 fun M11 =>
  b2 M11 (v1 + (nI 1))
def fX7_sendAll_j43 (M : xM) (v1 : Int32) (v2 : Int32) (s0 : Int32) (b2 : xM → Int32 → Option (xM)) : Option (xM) :=
  xrd 24 (M.1 8) v1 fun x6 =>
  if x6 = (nI 2) then
    if (nI 5) < s0 then
      fX7_sendAll_j69 M v1 v2 (-1) v1 b2
    else
      fX7_sendAll_j69 M v1 v2 s0 v1 b2
  else
    fX7_sendAll_j69 M v1 v2 (-1) v1 b2
def fX7_sendAll_B2  (k100 : xM → Option (xM)) (M : xM) (v1 : Int32) (b2 : xM → Int32 → Option (xM)) : Option (xM) :=
  (fX7_ports M).bind fun z1 =>
  if z1 ≤ v1 then
    k100 M
  else
    (fX7_bridgeOf M v1).bind fun z2 =>
    xrd 8 (M.1 5) z2 fun x3 =>
    if nI 0 ≤ x3 then
      xrd 8 (M.1 5) z2 fun x4 =>
      (fX7_message M x4 (nI 4)).bind fun z5 =>
      fX7_sendAll_j43 M v1 z2 ((nI 7) - z5) b2
    else
      fX7_sendAll_j43 M v1 z2 (nI 0) b2
def fX7_sendAll_L2  (k100 : xM → Option (xM)) : Nat → xM → Int32 → Option (xM)
  | 0, _, _ => none
  | n + 1, M, v1 => fX7_sendAll_B2 k100 M v1 (fun M v1 => fX7_sendAll_L2 k100 n M v1)
def fX7_sendAll (M : xM) : Option (xM) :=
  fX7_sendAll_L2 (fun M12 => 
  some M12) 512 M (nI 0)
def fX7_isBetterSent (M : xM) (p1 : Int32) (p2 : Int32) : Option (Int32) :=
  xrd 24 (M.1 10) p1 fun x1 =>
  xrd 24 (M.1 11) p1 fun x2 =>
  (fX7_bridgeOf M p1).bind fun z3 =>
  (fX7_idOf M z3).bind fun z4 =>
  xrd 24 (M.1 10) p2 fun x5 =>
  xrd 24 (M.1 11) p2 fun x6 =>
  (fX7_bridgeOf M p2).bind fun z7 =>
  (fX7_idOf M z7).bind fun z8 =>
  (fX7_isBetter M x1 x2 z4 p1 x5 x6 z8 p2).bind fun z9 =>
  xzb z9 (some z9)
def fX7_heardBy_j78 (M : xM) (v1 : Int32) (v3 : Int32) (s0 : Int32) (b5 : Int32 → Int32 → Option (Int32)) : Option (Int32) :=
  b5 s0 (v3 + (nI 1))
def fX7_heardBy_j53 (M : xM) (v1 : Int32) (v2 : Int32) (v3 : Int32) (s0 : Int32) (b5 : Int32 → Int32 → Option (Int32)) : Option (Int32) :=
  if s0 = nI 0 then
    fX7_heardBy_j78 M v1 v3 v2 b5
  else
    if v2 < nI 0 then
      fX7_heardBy_j78 M v1 v3 v3 b5
    else
      (fX7_isBetterSent M v3 v2).bind fun z2 =>
      if z2 = nI 0 then
        fX7_heardBy_j78 M v1 v3 v2 b5
      else
        fX7_heardBy_j78 M v1 v3 v3 b5
def fX7_heardBy_B5 (M : xM) (v1 : Int32) (k85 : Int32 → Option (Int32)) (v2 : Int32) (v3 : Int32) (b5 : Int32 → Int32 → Option (Int32)) : Option (Int32) :=
  (fX7_ports M).bind fun z1 =>
  if z1 ≤ v3 then
    k85 v2
  else
    if v3 = v1 then
      fX7_heardBy_j53 M v1 v2 v3 (nI 0) b5
    else
      xrd 24 (M.1 9) v3 fun x3 =>
      if x3 < nI 0 then
        fX7_heardBy_j53 M v1 v2 v3 (nI 0) b5
      else
        xrd 431 (M.1 1) ((nI 45) + v3) fun x4 =>
        xrd 431 (M.1 1) ((nI 45) + v1) fun x5 =>
        if x4 = x5 then
          fX7_heardBy_j53 M v1 v2 v3 (nI 1) b5
        else
          fX7_heardBy_j53 M v1 v2 v3 (nI 0) b5
def fX7_heardBy_L5 (M : xM) (v1 : Int32) (k85 : Int32 → Option (Int32)) : Nat → Int32 → Int32 → Option (Int32)
  | 0, _, _ => none
  | n + 1, v2, v3 => fX7_heardBy_B5 M v1 k85 v2 v3 (fun v2 v3 => fX7_heardBy_L5 M v1 k85 n v2 v3)
def fX7_heardBy (M : xM) (p1 : Int32) : Option (Int32) :=
  fX7_heardBy_L5 M p1 (fun v6 => 
  some v6) 512 (-9) (nI 0)
def fX7_hear_j148 (M : xM) (v1 : Int32) (v2 : Int32) (v3 : Int32) (v4 : Int32) : Option (xM) :=
  if v4 = nI 0 then
    (fX7_stores M v1).bind fun z4 =>
    if z4 = nI 0 then
      some M
    else
      xrd 431 (M.1 1) (((nI 165) + ((nI 5) * v1)) + (nI 4)) fun x5 =>
      xwI 431 M 1 (((nI 165) + ((nI 5) * v1)) + (nI 4)) (x5 - (nI 1)) fun M6 =>
      some M6
  else
    xrd 24 (M.1 10) v2 fun x7 =>
    xwI 431 M 1 (((nI 165) + ((nI 5) * v1)) + (nI 0)) x7 fun M8 =>
    xrd 24 (M8.1 11) v2 fun x9 =>
    xwI 431 M8 1 (((nI 165) + ((nI 5) * v1)) + (nI 1)) x9 fun M10 =>
    xwI 431 M10 1 (((nI 165) + ((nI 5) * v1)) + (nI 2)) v3 fun M11 =>
    xwI 431 M11 1 (((nI 165) + ((nI 5) * v1)) + (nI 3)) v2 fun M12 =>
    xrd 24 (M12.1 9) v2 fun x13 =>
    xwI 431 M12 1 (((nI 165) + ((nI 5) * v1)) + (nI 4)) ((nI 6) - x13) fun M14 =>
    some M14
def fX7_hear_j146 (M : xM) (v1 : Int32) (v2 : Int32) (v3 : Int32) (s0 : Int32) : Option (xM) :=
  fX7_hear_j148 M v1 v2 v3 s0
def fX7_hear_j129 (M : xM) (v1 : Int32) (v2 : Int32) (v3 : Int32) (v5 : Int32) (s0 : Int32) : Option (xM) :=
  if v5 = nI 0 then
    fX7_hear_j146 M v1 v2 v3 (nI 1)
  else
    if s0 = nI 0 then
      fX7_hear_j146 M v1 v2 v3 (nI 0)
    else
      fX7_hear_j146 M v1 v2 v3 (nI 1)
def fX7_hear_j46 (M : xM) (v1 : Int32) (v2 : Int32) (v3 : Int32) (s0 : Int32) : Option (xM) :=
  if s0 = nI 0 then
    fX7_hear_j148 M v1 v2 v3 s0
  else
    (fX7_stores M v1).bind fun z15 =>
    if z15 = nI 0 then
      fX7_hear_j148 M v1 v2 v3 s0
    else
      (fX7_message M v1 (nI 0)).bind fun z16 =>
      (fX7_message M v1 (nI 1)).bind fun z17 =>
      (fX7_message M v1 (nI 2)).bind fun z18 =>
      (fX7_message M v1 (nI 3)).bind fun z19 =>
      xrd 24 (M.1 10) v2 fun x20 =>
      xrd 24 (M.1 11) v2 fun x21 =>
      (fX7_isBetter M z16 z17 z18 z19 x20 x21 v3 v2).bind fun z22 =>
      (fX7_message M v1 (nI 2)).bind fun z23 =>
      if z23 = v3 then
        (fX7_message M v1 (nI 3)).bind fun z24 =>
        if z24 = v2 then
          fX7_hear_j129 M v1 v2 v3 z22 (nI 1)
        else
          fX7_hear_j129 M v1 v2 v3 z22 (nI 0)
      else
        fX7_hear_j129 M v1 v2 v3 z22 (nI 0)
def fX7_hear_j36 (M : xM) (v1 : Int32) (v2 : Int32) (s0 : Int32) : Option (xM) :=
  if v2 < nI 0 then
    fX7_hear_j46 M v1 v2 s0 (nI 0)
  else
    fX7_hear_j46 M v1 v2 s0 (nI 1)
def fX7_hear_j18 (M : xM) (v1 : Int32) (s0 : Int32) : Option (xM) :=
  if nI 0 ≤ s0 then
    (fX7_bridgeOf M s0).bind fun z2 =>
    (fX7_idOf M z2).bind fun z3 =>
    fX7_hear_j36 M v1 s0 z3
  else
    fX7_hear_j36 M v1 s0 (nI 0)
def fX7_hear (M : xM) (p1 : Int32) : Option (xM) :=
  (fX7_isActive M p1).bind fun z1 =>
  if z1 = nI 0 then
    fX7_hear_j18 M p1 (-9)
  else
    (fX7_heardBy M p1).bind fun z25 =>
    fX7_hear_j18 M p1 z25
def fX7_goOn_j30 (M : xM) (v1 : Int32) : Option (xM) :=
  xwI 431 M 1 ((nI 117) + v1) (nI 1) fun M3 =>
  some M3
def fX7_goOn_j82 (M : xM) (v1 : Int32) (v2 : Int32) : Option (xM) :=
  xrd 431 (M.1 1) ((nI 141) + v1) fun x5 =>
  xwI 431 M 1 ((nI 141) + v1) (x5 - (nI 1)) fun M6 =>
  xrd 431 (M6.1 1) ((nI 141) + v1) fun x7 =>
  if x7 = nI 0 then
    xwI 431 M6 1 ((nI 117) + v1) (v2 + (nI 1)) fun M8 =>
    xwI 431 M8 1 ((nI 141) + v1) (nI 2) fun M9 =>
    some M9
  else
    some M6
def fX7_goOn (M : xM) (p1 : Int32) : Option (xM) :=
  xrd 431 (M.1 1) ((nI 117) + p1) fun x1 =>
  xrd 24 (M.1 8) p1 fun x2 =>
  if x2 = (nI 3) then
    fX7_goOn_j30 M p1
  else
    xrd 24 (M.1 8) p1 fun x4 =>
    if x4 = (nI 4) then
      fX7_goOn_j30 M p1
    else
      if x1 = (nI 1) then
        xwI 431 M 1 ((nI 117) + p1) (nI 2) fun M10 =>
        xwI 431 M10 1 ((nI 141) + p1) (nI 2) fun M11 =>
        some M11
      else
        if x1 = (nI 2) then
          fX7_goOn_j82 M p1 x1
        else
          if x1 = (nI 3) then
            fX7_goOn_j82 M p1 x1
          else
            some M
def fX7_tickOnce_B6  (k32 : xM → Option (Int32 × xM)) (M : xM) (v1 : Int32) (b6 : xM → Int32 → Option (Int32 × xM)) : Option (Int32 × xM) :=
  (fX7_ports M).bind fun z2 =>
  if z2 ≤ v1 then
    k32 M
  else
    xrd 24 (M.1 8) v1 fun x3 =>
    xwI 24 M 12 v1 x3 fun M4 =>
    b6 M4 (v1 + (nI 1))
def fX7_tickOnce_L6  (k32 : xM → Option (Int32 × xM)) : Nat → xM → Int32 → Option (Int32 × xM)
  | 0, _, _ => none
  | n + 1, M, v1 => fX7_tickOnce_B6 k32 M v1 (fun M v1 => fX7_tickOnce_L6 k32 n M v1)
def fX7_tickOnce_B38  (k57 : xM → Option (Int32 × xM)) (M : xM) (v1 : Int32) (b38 : xM → Int32 → Option (Int32 × xM)) : Option (Int32 × xM) :=
  (fX7_ports M).bind fun z7 =>
  if z7 ≤ v1 then
    k57 M
  else
    (fX7_hear M v1).bind fun z8 =>
    b38 z8 (v1 + (nI 1))
def fX7_tickOnce_L38  (k57 : xM → Option (Int32 × xM)) : Nat → xM → Int32 → Option (Int32 × xM)
  | 0, _, _ => none
  | n + 1, M, v1 => fX7_tickOnce_B38 k57 M v1 (fun M v1 => fX7_tickOnce_L38 k57 n M v1)
def fX7_tickOnce_j134 (M : xM) (v2 : Int32) (s0 : Int32) (b65 : xM → Int32 → Int32 → Option (Int32 × xM)) : Option (Int32 × xM) :=
  b65 M s0 (v2 + (nI 1))
def fX7_tickOnce_j97 (M : xM) (v1 : Int32) (v2 : Int32) (v3 : Int32) (b65 : xM → Int32 → Int32 → Option (Int32 × xM)) : Option (Int32 × xM) :=
  if v1 = nI 0 then
    xrd 431 (M.1 1) ((nI 117) + v2) fun x14 =>
    if x14 = v3 then
      xrd 24 (M.1 8) v2 fun x15 =>
      xrd 24 (M.1 12) v2 fun x16 =>
      if x15 = x16 then
        fX7_tickOnce_j134 M v2 (nI 0) b65
      else
        fX7_tickOnce_j134 M v2 (nI 1) b65
    else
      fX7_tickOnce_j134 M v2 (nI 1) b65
  else
    fX7_tickOnce_j134 M v2 (nI 1) b65
def fX7_tickOnce_B65  (k141 : xM → Int32 → Option (Int32 × xM)) (M : xM) (v1 : Int32) (v2 : Int32) (b65 : xM → Int32 → Int32 → Option (Int32 × xM)) : Option (Int32 × xM) :=
  (fX7_ports M).bind fun z11 =>
  if z11 ≤ v2 then
    k141 M v1
  else
    xrd 431 (M.1 1) ((nI 117) + v2) fun x12 =>
    xrd 24 (M.1 8) v2 fun x13 =>
    if x13 = nI 0 then
      fX7_tickOnce_j97 M v1 v2 x12 b65
    else
      (fX7_goOn M v2).bind fun z17 =>
      fX7_tickOnce_j97 z17 v1 v2 x12 b65
def fX7_tickOnce_L65  (k141 : xM → Int32 → Option (Int32 × xM)) : Nat → xM → Int32 → Int32 → Option (Int32 × xM)
  | 0, _, _, _ => none
  | n + 1, M, v1, v2 => fX7_tickOnce_B65 k141 M v1 v2 (fun M v1 v2 => fX7_tickOnce_L65 k141 n M v1 v2)
def fX7_tickOnce_j178 (M : xM) (v1 : Int32) (v2 : Int32) (s0 : Int32) (s1 : Int32) (s2 : Int32) (b143 : xM → Int32 → Option (Int32 × xM)) : Option (Int32 × xM) :=
  xwI 431 M 1 s2 (s1 - s0) fun M22 =>
  b143 M22 (v2 + (nI 1))
def fX7_tickOnce_B143 (v1 : Int32) (k186 : xM → Option (Int32 × xM)) (M : xM) (v2 : Int32) (b143 : xM → Int32 → Option (Int32 × xM)) : Option (Int32 × xM) :=
  if (nI 64) ≤ v2 then
    k186 M
  else
    xrd 431 (M.1 1) ((nI 357) + v2) fun x20 =>
    xrd 431 (M.1 1) ((nI 357) + v2) fun x21 =>
    if x21 ≤ nI 0 then
      fX7_tickOnce_j178 M v1 v2 (nI 0) x20 ((nI 357) + v2) b143
    else
      fX7_tickOnce_j178 M v1 v2 (nI 1) x20 ((nI 357) + v2) b143
def fX7_tickOnce_L143 (v1 : Int32) (k186 : xM → Option (Int32 × xM)) : Nat → xM → Int32 → Option (Int32 × xM)
  | 0, _, _ => none
  | n + 1, M, v2 => fX7_tickOnce_B143 v1 k186 M v2 (fun M v2 => fX7_tickOnce_L143 v1 k186 n M v2)
def fX7_tickOnce (M : xM) : Option (Int32 × xM) :=
  (fX7_layRoles M).bind fun z1 =>
  fX7_tickOnce_L6 (fun M5 => 
  (fX7_sendAll M5).bind fun z6 =>
  fX7_tickOnce_L38 (fun M9 => 
  (fX7_layRoles M9).bind fun z10 =>
  fX7_tickOnce_L65 (fun M19 v18 => 
  fX7_tickOnce_L143 v18 (fun M23 => 
  xrd 431 (M23.1 1) (nI 4) fun x24 =>
  xwI 431 M23 1 (nI 4) (x24 + (nI 1)) fun M25 =>
  xzb v18 (some (v18, M25))) 512 M19 (nI 0)) 512 z10 (nI 0) (nI 0)) 512 z6 (nI 0)) 512 z1 (nI 0)
def fX7_tick_B15 (v1 : Int32) (k31 : xM → Option (Int32 × xM)) (M : xM) (v2 : Int32) (b15 : xM → Int32 → Option (Int32 × xM)) : Option (Int32 × xM) :=
  if v1 ≤ v2 then
    k31 M
  else
    (fX7_tickOnce M).bind fun z2 =>
    b15 z2.2 (v2 + (nI 1))
def fX7_tick_L15 (v1 : Int32) (k31 : xM → Option (Int32 × xM)) : Nat → xM → Int32 → Option (Int32 × xM)
  | 0, _, _ => none
  | n + 1, M, v2 => fX7_tick_B15 v1 k31 M v2 (fun M v2 => fX7_tick_L15 v1 k31 n M v2)
def fX7_tick (M : xM) (p1 : Int32) : Option (Int32 × xM) :=
  (fX7_in M p1 (nI 1) (nI 50)).bind fun z1 =>
  if z1 = nI 0 then
    some ((-5), M)
  else
    fX7_tick_L15 p1 (fun M3 => 
  xrd 431 (M3.1 1) (nI 4) fun x4 =>
  some (x4, M3)) 512 M (nI 0)
def fX7_settle_j38 (M : xM) (v1 : Int32) (v3 : Int32) (s0 : Int32) (b19 : xM → Int32 → Int32 → Option (Int32 × xM)) : Option (Int32 × xM) :=
  if s0 = (nI 8) then
    some (v3, M)
  else
    b19 M s0 (v3 + (nI 1))
def fX7_settle_B19 (v1 : Int32) (k53 : xM → Option (Int32 × xM)) (M : xM) (v2 : Int32) (v3 : Int32) (b19 : xM → Int32 → Int32 → Option (Int32 × xM)) : Option (Int32 × xM) :=
  if v1 < v3 then
    k53 M
  else
    (fX7_tickOnce M).bind fun z2 =>
    if z2.1 = nI 0 then
      fX7_settle_j38 z2.2 v1 v3 (v2 + (nI 1)) b19
    else
      fX7_settle_j38 z2.2 v1 v3 (nI 0) b19
def fX7_settle_L19 (v1 : Int32) (k53 : xM → Option (Int32 × xM)) : Nat → xM → Int32 → Int32 → Option (Int32 × xM)
  | 0, _, _, _ => none
  | n + 1, M, v2, v3 => fX7_settle_B19 v1 k53 M v2 v3 (fun M v2 v3 => fX7_settle_L19 v1 k53 n M v2 v3)
def fX7_settle (M : xM) (p1 : Int32) : Option (Int32 × xM) :=
  (fX7_in M p1 (nI 8) (nI 200)).bind fun z1 =>
  if z1 = nI 0 then
    some ((-5), M)
  else
    fX7_settle_L19 p1 (fun M3 => 
  some ((-7), M3)) 512 M (nI 0) (nI 1)
def fX7_identifier (M : xM) (p1 : Int32) : Option (Int32) :=
  (fX7_isBridge M p1).bind fun z1 =>
  if z1 = nI 0 then
    some (-1)
  else
    (fX7_idOf M p1).bind fun z2 =>
    some z2
def fX7_isUp (M : xM) (p1 : Int32) : Option (Int32) :=
  xrd 431 (M.1 1) ((nI 13) + p1) fun x1 =>
  if x1 = (nI 1) then
    some (nI 1)
  else
    some (nI 0)
def fX7_root (M : xM) (p1 : Int32) : Option (Int32 × xM) :=
  (fX7_isBridge M p1).bind fun z1 =>
  if z1 = nI 0 then
    some ((-1), M)
  else
    (fX7_layRoles M).bind fun z2 =>
    (fX7_isUp z2 p1).bind fun z3 =>
    if z3 = nI 0 then
      some ((-9), z2)
    else
      xrd 8 (z2.1 6) p1 fun x4 =>
      some (x4, z2)
def fX7_rootCost (M : xM) (p1 : Int32) : Option (Int32 × xM) :=
  (fX7_isBridge M p1).bind fun z1 =>
  if z1 = nI 0 then
    some ((-1), M)
  else
    (fX7_layRoles M).bind fun z2 =>
    (fX7_isUp z2 p1).bind fun z3 =>
    if z3 = nI 0 then
      some ((-9), z2)
    else
      xrd 8 (z2.1 7) p1 fun x4 =>
      some (x4, z2)
def fX7_rootPort (M : xM) (p1 : Int32) : Option (Int32 × xM) :=
  (fX7_isBridge M p1).bind fun z1 =>
  if z1 = nI 0 then
    some ((-1), M)
  else
    (fX7_layRoles M).bind fun z2 =>
    xrd 8 (z2.1 5) p1 fun x3 =>
    some (x3, z2)
def fX7_role (M : xM) (p1 : Int32) : Option (Int32 × xM) :=
  (fX7_isPort M p1).bind fun z1 =>
  if z1 = nI 0 then
    some ((-3), M)
  else
    (fX7_layRoles M).bind fun z2 =>
    xrd 24 (z2.1 8) p1 fun x3 =>
    some (x3, z2)
def fX7_state (M : xM) (p1 : Int32) : Option (Int32) :=
  (fX7_isPort M p1).bind fun z1 =>
  if z1 = nI 0 then
    some (-3)
  else
    xrd 431 (M.1 1) ((nI 117) + p1) fun x2 =>
    some x2
def fX7_stored (M : xM) (p1 : Int32) (p2 : Int32) : Option (Int32) :=
  (fX7_isPort M p1).bind fun z1 =>
  if z1 = nI 0 then
    some (-3)
  else
    (fX7_in M p2 (nI 0) (nI 4)).bind fun z2 =>
    if z2 = nI 0 then
      some (-5)
    else
      (fX7_stores M p1).bind fun z3 =>
      if z3 = nI 0 then
        some (-9)
      else
        (fX7_message M p1 p2).bind fun z4 =>
        some z4
def fX7_portsIn_j45 (M : xM) (v1 : Int32) (v3 : Int32) (s0 : Int32) (s1 : Int32) (b16 : Int32 → Int32 → Option (Int32)) : Option (Int32) :=
  b16 (s1 ||| s0) (v3 + (nI 1))
def fX7_portsIn_B16 (M : xM) (v1 : Int32) (k53 : Int32 → Option (Int32)) (v2 : Int32) (v3 : Int32) (b16 : Int32 → Int32 → Option (Int32)) : Option (Int32) :=
  (fX7_ports M).bind fun z2 =>
  if z2 ≤ v3 then
    k53 v2
  else
    xrd 431 (M.1 1) ((nI 117) + v3) fun x3 =>
    if x3 = v1 then
      fX7_portsIn_j45 M v1 v3 ((nI 1) <<< (v3 &&& 31)) v2 b16
    else
      fX7_portsIn_j45 M v1 v3 (nI 0) v2 b16
def fX7_portsIn_L16 (M : xM) (v1 : Int32) (k53 : Int32 → Option (Int32)) : Nat → Int32 → Int32 → Option (Int32)
  | 0, _, _ => none
  | n + 1, v2, v3 => fX7_portsIn_B16 M v1 k53 v2 v3 (fun v2 v3 => fX7_portsIn_L16 M v1 k53 n v2 v3)
def fX7_portsIn (M : xM) (p1 : Int32) : Option (Int32) :=
  (fX7_in M p1 (nI 0) (nI 4)).bind fun z1 =>
  if z1 = nI 0 then
    some (-5)
  else
    fX7_portsIn_L16 M p1 (fun v4 => 
  some v4) 512 (nI 0) (nI 0)
def fX7_joinAll_B2  (k21 : xM → Option (Int32 × xM)) (M : xM) (v1 : Int32) (b2 : xM → Int32 → Option (Int32 × xM)) : Option (Int32 × xM) :=
  if (nI 18) ≤ v1 then
    k21 M
  else
    xwI 18 M 13 v1 v1 fun M1 =>
    b2 M1 (v1 + (nI 1))
def fX7_joinAll_L2  (k21 : xM → Option (Int32 × xM)) : Nat → xM → Int32 → Option (Int32 × xM)
  | 0, _, _ => none
  | n + 1, M, v1 => fX7_joinAll_B2 k21 M v1 (fun M v1 => fX7_joinAll_L2 k21 n M v1)
def fX7_joinAll_j118 (M : xM) (v1 : Int32) (v2 : Int32) (v3 : Int32) (v4 : Int32) (v5 : Int32) (s0 : Int32) (s1 : Int32) (b82 : xM → Int32 → Option (Int32 × xM)) : Option (Int32 × xM) :=
  xwI 18 M 13 s1 s0 fun M11 =>
  b82 M11 (v5 + (nI 1))
def fX7_joinAll_B82 (v1 : Int32) (v2 : Int32) (v3 : Int32) (v4 : Int32) (k125 : xM → Option (Int32 × xM)) (M : xM) (v5 : Int32) (b82 : xM → Int32 → Option (Int32 × xM)) : Option (Int32 × xM) :=
  if (nI 18) ≤ v5 then
    k125 M
  else
    xrd 18 (M.1 13) v5 fun x9 =>
    if x9 = v4 then
      fX7_joinAll_j118 M v1 v2 v3 v4 v5 v3 v5 b82
    else
      xrd 18 (M.1 13) v5 fun x10 =>
      fX7_joinAll_j118 M v1 v2 v3 v4 v5 x10 v5 b82
def fX7_joinAll_L82 (v1 : Int32) (v2 : Int32) (v3 : Int32) (v4 : Int32) (k125 : xM → Option (Int32 × xM)) : Nat → xM → Int32 → Option (Int32 × xM)
  | 0, _, _ => none
  | n + 1, M, v5 => fX7_joinAll_B82 v1 v2 v3 v4 k125 M v5 (fun M v5 => fX7_joinAll_L82 v1 v2 v3 v4 k125 n M v5)
def fX7_joinAll_B25  (k131 : xM → Int32 → Option (Int32 × xM)) (M : xM) (v1 : Int32) (v2 : Int32) (b25 : xM → Int32 → Int32 → Option (Int32 × xM)) : Option (Int32 × xM) :=
  (fX7_ports M).bind fun z3 =>
  if z3 ≤ v2 then
    k131 M v1
  else
    xrd 431 (M.1 1) ((nI 117) + v2) fun x4 =>
    if x4 = (nI 4) then
      xrd 431 (M.1 1) ((nI 45) + v2) fun x5 =>
      xrd 18 (M.1 13) x5 fun x6 =>
      (fX7_bridgeOf M v2).bind fun z7 =>
      xrd 18 (M.1 13) ((nI 10) + z7) fun x8 =>
      fX7_joinAll_L82 (v1 + (nI 1)) v2 x6 x8 (fun M12 => 
  b25 M12 (v1 + (nI 1)) (v2 + (nI 1))) 512 M (nI 0)
    else
      b25 M v1 (v2 + (nI 1))
def fX7_joinAll_L25  (k131 : xM → Int32 → Option (Int32 × xM)) : Nat → xM → Int32 → Int32 → Option (Int32 × xM)
  | 0, _, _, _ => none
  | n + 1, M, v1, v2 => fX7_joinAll_B25 k131 M v1 v2 (fun M v1 v2 => fX7_joinAll_L25 k131 n M v1 v2)
def fX7_joinAll (M : xM) : Option (Int32 × xM) :=
  fX7_joinAll_L2 (fun M2 => 
  fX7_joinAll_L25 (fun M14 v13 => 
  some (v13, M14)) 512 M2 (nI 0) (nI 0)) 512 M (nI 0)
def fX7_isVertex (M : xM) (p1 : Int32) : Option (Int32) :=
  if (nI 10) ≤ p1 then
    (fX7_isBridge M (p1 - (nI 10))).bind fun z1 =>
    if z1 = nI 0 then
      some (nI 0)
    else
      (fX7_isUp M (p1 - (nI 10))).bind fun z2 =>
      if z2 = nI 0 then
        some (nI 0)
      else
        some (nI 1)
  else
    (fX7_isSegment M p1).bind fun z3 =>
    xzb z3 (some z3)
def fX7_vertices_j24 (M : xM) (v2 : Int32) (s0 : Int32) (s1 : Int32) (b4 : Int32 → Int32 → Option (Int32)) : Option (Int32) :=
  b4 (s1 + s0) (v2 + (nI 1))
def fX7_vertices_B4 (M : xM)  (k32 : Int32 → Option (Int32)) (v1 : Int32) (v2 : Int32) (b4 : Int32 → Int32 → Option (Int32)) : Option (Int32) :=
  if (nI 18) ≤ v2 then
    k32 v1
  else
    (fX7_isVertex M v2).bind fun z1 =>
    if z1 = nI 0 then
      fX7_vertices_j24 M v2 (nI 0) v1 b4
    else
      fX7_vertices_j24 M v2 (nI 1) v1 b4
def fX7_vertices_L4 (M : xM)  (k32 : Int32 → Option (Int32)) : Nat → Int32 → Int32 → Option (Int32)
  | 0, _, _ => none
  | n + 1, v1, v2 => fX7_vertices_B4 M k32 v1 v2 (fun v1 v2 => fX7_vertices_L4 M k32 n v1 v2)
def fX7_vertices (M : xM) : Option (Int32) :=
  fX7_vertices_L4 M (fun v2 => 
  some v2) 512 (nI 0) (nI 0)
def fX7_partsNow_j59 (M : xM) (v1 : Int32) (v2 : Int32) (v4 : Int32) (s0 : Int32) (b19 : Int32 → Int32 → Option (Int32)) : Option (Int32) :=
  b19 s0 (v4 + (nI 1))
def fX7_partsNow_B19 (M : xM) (v1 : Int32) (v2 : Int32) (k66 : Int32 → Option (Int32)) (v3 : Int32) (v4 : Int32) (b19 : Int32 → Int32 → Option (Int32)) : Option (Int32) :=
  if v2 ≤ v4 then
    k66 v3
  else
    if v3 = nI 0 then
      fX7_partsNow_j59 M v1 v2 v4 (nI 0) b19
    else
      (fX7_isVertex M v4).bind fun z2 =>
      if z2 = nI 0 then
        fX7_partsNow_j59 M v1 v2 v4 (nI 1) b19
      else
        xrd 18 (M.1 13) v4 fun x3 =>
        xrd 18 (M.1 13) v2 fun x4 =>
        if x3 = x4 then
          fX7_partsNow_j59 M v1 v2 v4 (nI 0) b19
        else
          fX7_partsNow_j59 M v1 v2 v4 (nI 1) b19
def fX7_partsNow_L19 (M : xM) (v1 : Int32) (v2 : Int32) (k66 : Int32 → Option (Int32)) : Nat → Int32 → Int32 → Option (Int32)
  | 0, _, _ => none
  | n + 1, v3, v4 => fX7_partsNow_B19 M v1 v2 k66 v3 v4 (fun v3 v4 => fX7_partsNow_L19 M v1 v2 k66 n v3 v4)
def fX7_partsNow_j76 (M : xM) (v2 : Int32) (s0 : Int32) (s1 : Int32) (b4 : Int32 → Int32 → Option (Int32)) : Option (Int32) :=
  b4 (s1 + s0) (v2 + (nI 1))
def fX7_partsNow_B4 (M : xM)  (k84 : Int32 → Option (Int32)) (v1 : Int32) (v2 : Int32) (b4 : Int32 → Int32 → Option (Int32)) : Option (Int32) :=
  if (nI 18) ≤ v2 then
    k84 v1
  else
    (fX7_isVertex M v2).bind fun z1 =>
    fX7_partsNow_L19 M v1 v2 (fun v5 => 
  if v5 = nI 0 then
    fX7_partsNow_j76 M v2 (nI 0) v1 b4
  else
    fX7_partsNow_j76 M v2 (nI 1) v1 b4) 512 z1 (nI 0)
def fX7_partsNow_L4 (M : xM)  (k84 : Int32 → Option (Int32)) : Nat → Int32 → Int32 → Option (Int32)
  | 0, _, _ => none
  | n + 1, v1, v2 => fX7_partsNow_B4 M k84 v1 v2 (fun v1 v2 => fX7_partsNow_L4 M k84 n v1 v2)
def fX7_partsNow (M : xM) : Option (Int32) :=
  fX7_partsNow_L4 M (fun v6 => 
  some v6) 512 (nI 0) (nI 0)
def fX7_parts (M : xM) : Option (Int32 × xM) :=
  (fX7_joinAll M).bind fun z1 =>
  (fX7_partsNow z1.2).bind fun z2 =>
  some (z2, z1.2)
def fX7_loops (M : xM) : Option (Int32 × xM) :=
  (fX7_joinAll M).bind fun z1 =>
  (fX7_vertices z1.2).bind fun z2 =>
  (fX7_partsNow z1.2).bind fun z3 =>
  some ((z1.1 - z2) + z3, z1.2)
def fX7_transmit (M : xM) (p1 : Int32) (p2 : Int32) : Option (xM) :=
  if (nI 64) ≤ (M.1 0 0) then
    some M
  else
    xwI 64 M 14 (M.1 0 0) p1 fun M1 =>
    xwI 64 M1 15 (M1.1 0 0) p2 fun M2 =>
    xpf M2 0 0 ((M2.1 0 0) + (nI 1)) fun M3 =>
    xrd 431 (M3.1 1) ((nI 421) + p1) fun x4 =>
    xwI 431 M3 1 ((nI 421) + p1) (x4 + (nI 1)) fun M5 =>
    some M5
def fX7_cell (M : xM) (p1 : Int32) (p2 : Int32) : Option (Int32) :=
  some (((nI 8) * p1) + p2)
def fX7_receive_B171 (v1 : Int32) (v4 : Int32) (k233 : xM → Option (xM)) (M : xM) (v8 : Int32) (b171 : xM → Int32 → Option (xM)) : Option (xM) :=
  (fX7_ports M).bind fun z7 =>
  if z7 ≤ v8 then
    k233 M
  else
    if v8 = v1 then
      b171 M (v8 + (nI 1))
    else
      (fX7_bridgeOf M v8).bind fun z8 =>
      if z8 = v4 then
        xrd 431 (M.1 1) ((nI 117) + v8) fun x9 =>
        if x9 = (nI 4) then
          xrd 431 (M.1 1) ((nI 45) + v8) fun x10 =>
          (fX7_transmit M x10 v8).bind fun z11 =>
          b171 z11 (v8 + (nI 1))
        else
          b171 M (v8 + (nI 1))
      else
        b171 M (v8 + (nI 1))
def fX7_receive_L171 (v1 : Int32) (v4 : Int32) (k233 : xM → Option (xM)) : Nat → xM → Int32 → Option (xM)
  | 0, _, _ => none
  | n + 1, M, v8 => fX7_receive_B171 v1 v4 k233 M v8 (fun M v8 => fX7_receive_L171 v1 v4 k233 n M v8)
def fX7_receive_j168 (M : xM) (v1 : Int32) (v4 : Int32) : Option (xM) :=
  fX7_receive_L171 v1 v4 (fun M12 => 
  some M12) 512 M (nI 0)
def fX7_receive_j124 (M : xM) (v1 : Int32) (v4 : Int32) (v6 : Int32) (s0 : Int32) : Option (xM) :=
  if v6 = nI 0 then
    fX7_receive_j168 M v1 v4
  else
    xrd 431 (M.1 1) ((nI 117) + s0) fun x13 =>
    if x13 = (nI 4) then
      if s0 = v1 then
        some M
      else
        xrd 431 (M.1 1) ((nI 45) + s0) fun x14 =>
        (fX7_transmit M x14 s0).bind fun z15 =>
        some z15
    else
      fX7_receive_j168 M v1 v4
def fX7_receive_j97 (M : xM) (v1 : Int32) (v3 : Int32) (v4 : Int32) (s0 : Int32) : Option (xM) :=
  if s0 = nI 0 then
    fX7_receive_j124 M v1 v4 s0 (-9)
  else
    (fX7_cell M v4 v3).bind fun z16 =>
    xrd 431 (M.1 1) ((nI 293) + z16) fun x17 =>
    fX7_receive_j124 M v1 v4 s0 x17
def fX7_receive_j63 (M : xM) (v1 : Int32) (v3 : Int32) (v4 : Int32) (v5 : Int32) : Option (xM) :=
  if v5 = (nI 4) then
    if v3 < nI 0 then
      fX7_receive_j97 M v1 v3 v4 (nI 0)
    else
      (fX7_cell M v4 v3).bind fun z18 =>
      xrd 431 (M.1 1) ((nI 357) + z18) fun x19 =>
      if x19 ≤ nI 0 then
        fX7_receive_j97 M v1 v3 v4 (nI 0)
      else
        fX7_receive_j97 M v1 v3 v4 (nI 1)
  else
    some M
def fX7_receive_j30 (M : xM) (v1 : Int32) (v2 : Int32) (v3 : Int32) (v4 : Int32) (v5 : Int32) : Option (xM) :=
  (fX7_cell M v4 v2).bind fun z3 =>
  xwI 431 M 1 ((nI 293) + z3) v1 fun M4 =>
  (fX7_cell M4 v4 v2).bind fun z5 =>
  xwI 431 M4 1 ((nI 357) + z5) (nI 10) fun M6 =>
  fX7_receive_j63 M6 v1 v3 v4 v5
def fX7_receive (M : xM) (p1 : Int32) (p2 : Int32) (p3 : Int32) : Option (xM) :=
  (fX7_bridgeOf M p1).bind fun z1 =>
  xrd 431 (M.1 1) ((nI 117) + p1) fun x2 =>
  if x2 = (nI 3) then
    fX7_receive_j30 M p1 p2 p3 z1 x2
  else
    if x2 = (nI 4) then
      fX7_receive_j30 M p1 p2 p3 z1 x2
    else
      fX7_receive_j63 M p1 p3 z1 x2
def fX7_send_B26 (v1 : Int32) (v2 : Int32) (k49 : xM → Option (Int32 × xM)) (M : xM) (v3 : Int32) (b26 : xM → Int32 → Option (Int32 × xM)) : Option (Int32 × xM) :=
  if (nI 10) ≤ v3 then
    k49 M
  else
    xwI 431 M 1 ((nI 421) + v3) (nI 0) fun M2 =>
    b26 M2 (v3 + (nI 1))
def fX7_send_L26 (v1 : Int32) (v2 : Int32) (k49 : xM → Option (Int32 × xM)) : Nat → xM → Int32 → Option (Int32 × xM)
  | 0, _, _ => none
  | n + 1, M, v3 => fX7_send_B26 v1 v2 k49 M v3 (fun M v3 => fX7_send_L26 v1 v2 k49 n M v3)
def fX7_send_B83 (v1 : Int32) (v2 : Int32) (v3 : Int32) (k145 : xM → Option (Int32 × xM)) (M : xM) (v4 : Int32) (b83 : xM → Int32 → Option (Int32 × xM)) : Option (Int32 × xM) :=
  (fX7_ports M).bind fun z7 =>
  if z7 ≤ v4 then
    k145 M
  else
    xrd 64 (M.1 15) v3 fun x8 =>
    if v4 = x8 then
      b83 M (v4 + (nI 1))
    else
      xrd 431 (M.1 1) ((nI 45) + v4) fun x9 =>
      xrd 64 (M.1 14) v3 fun x10 =>
      if x9 = x10 then
        (fX7_isActive M v4).bind fun z11 =>
        if z11 = nI 0 then
          b83 M (v4 + (nI 1))
        else
          (fX7_receive M v4 v1 v2).bind fun z12 =>
          b83 z12 (v4 + (nI 1))
      else
        b83 M (v4 + (nI 1))
def fX7_send_L83 (v1 : Int32) (v2 : Int32) (v3 : Int32) (k145 : xM → Option (Int32 × xM)) : Nat → xM → Int32 → Option (Int32 × xM)
  | 0, _, _ => none
  | n + 1, M, v4 => fX7_send_B83 v1 v2 v3 k145 M v4 (fun M v4 => fX7_send_L83 v1 v2 v3 k145 n M v4)
def fX7_send_B72 (v1 : Int32) (v2 : Int32) (k151 : xM → Option (Int32 × xM)) (M : xM) (v3 : Int32) (b72 : xM → Int32 → Option (Int32 × xM)) : Option (Int32 × xM) :=
  if (M.1 0 0) ≤ v3 then
    k151 M
  else
    fX7_send_L83 v1 v2 v3 (fun M13 => 
  b72 M13 (v3 + (nI 1))) 512 M (nI 0)
def fX7_send_L72 (v1 : Int32) (v2 : Int32) (k151 : xM → Option (Int32 × xM)) : Nat → xM → Int32 → Option (Int32 × xM)
  | 0, _, _ => none
  | n + 1, M, v3 => fX7_send_B72 v1 v2 k151 M v3 (fun M v3 => fX7_send_L72 v1 v2 k151 n M v3)
def fX7_send_j24 (M : xM) (v1 : Int32) (v2 : Int32) : Option (Int32 × xM) :=
  fX7_send_L26 v1 v2 (fun M3 => 
  xpf M3 0 0 (nI 0) fun M4 =>
  xrd 431 (M4.1 1) ((nI 285) + v1) fun x5 =>
  (fX7_transmit M4 x5 (-9)).bind fun z6 =>
  fX7_send_L72 v1 v2 (fun M14 => 
  some (M14.1 0 0, M14)) 512 z6 (nI 0)) 512 M (nI 0)
def fX7_send (M : xM) (p1 : Int32) (p2 : Int32) : Option (Int32 × xM) :=
  (fX7_isStation M p1).bind fun z1 =>
  if z1 = nI 0 then
    some ((-4), M)
  else
    if p2 = (-1) then
      fX7_send_j24 M p1 p2
    else
      (fX7_isStation M p2).bind fun z15 =>
      if z15 = nI 0 then
        some ((-4), M)
      else
        fX7_send_j24 M p1 p2
def fX7_transmissions (M : xM) (p1 : Int32) : Option (Int32) :=
  (fX7_isSegment M p1).bind fun z1 =>
  if z1 = nI 0 then
    some (-2)
  else
    xrd 431 (M.1 1) ((nI 421) + p1) fun x2 =>
    some x2
def fX7_entry (M : xM) (p1 : Int32) (p2 : Int32) : Option (Int32) :=
  (fX7_isBridge M p1).bind fun z1 =>
  if z1 = nI 0 then
    some (-1)
  else
    (fX7_isStation M p2).bind fun z2 =>
    if z2 = nI 0 then
      some (-4)
    else
      (fX7_cell M p1 p2).bind fun z3 =>
      xrd 431 (M.1 1) ((nI 357) + z3) fun x4 =>
      if x4 ≤ nI 0 then
        some (-9)
      else
        (fX7_cell M p1 p2).bind fun z5 =>
        xrd 431 (M.1 1) ((nI 293) + z5) fun x6 =>
        some x6
def fX7_count (M : xM) (p1 : Int32) : Option (Int32) :=
  (fX7_in M p1 (nI 0) (nI 4)).bind fun z1 =>
  if z1 = nI 0 then
    some (-5)
  else
    xrd 431 (M.1 1) p1 fun x2 =>
    some x2
def fX7_save_B14 (v1 : Int32) (k45 : xM → Option (Int32 × xM)) (M : xM) (v2 : Int32) (b14 : xM → Int32 → Option (Int32 × xM)) : Option (Int32 × xM) :=
  if (nI 431) ≤ v2 then
    k45 M
  else
    xrd 431 (M.1 1) v2 fun x2 =>
    xwI 862 M 2 (((nI 431) * v1) + v2) x2 fun M3 =>
    b14 M3 (v2 + (nI 1))
def fX7_save_L14 (v1 : Int32) (k45 : xM → Option (Int32 × xM)) : Nat → xM → Int32 → Option (Int32 × xM)
  | 0, _, _ => none
  | n + 1, M, v2 => fX7_save_B14 v1 k45 M v2 (fun M v2 => fX7_save_L14 v1 k45 n M v2)
def fX7_save (M : xM) (p1 : Int32) : Option (Int32 × xM) :=
  (fX7_in M p1 (nI 0) (nI 1)).bind fun z1 =>
  if z1 = nI 0 then
    some ((-5), M)
  else
    fX7_save_L14 p1 (fun M4 => 
  xwI 2 M4 3 p1 (vp_nar .boolean (nI 1)) fun M5 =>
  xrd 431 (M5.1 1) (nI 0) fun x6 =>
  some (x6, M5)) 512 M (nI 0)
def fX7_restore_B26 (v1 : Int32) (k57 : xM → Option (Int32 × xM)) (M : xM) (v2 : Int32) (b26 : xM → Int32 → Option (Int32 × xM)) : Option (Int32 × xM) :=
  if (nI 431) ≤ v2 then
    k57 M
  else
    xrd 862 (M.1 2) (((nI 431) * v1) + v2) fun x3 =>
    xwI 431 M 1 v2 x3 fun M4 =>
    b26 M4 (v2 + (nI 1))
def fX7_restore_L26 (v1 : Int32) (k57 : xM → Option (Int32 × xM)) : Nat → xM → Int32 → Option (Int32 × xM)
  | 0, _, _ => none
  | n + 1, M, v2 => fX7_restore_B26 v1 k57 M v2 (fun M v2 => fX7_restore_L26 v1 k57 n M v2)
def fX7_restore (M : xM) (p1 : Int32) : Option (Int32 × xM) :=
  (fX7_in M p1 (nI 0) (nI 1)).bind fun z1 =>
  if z1 = nI 0 then
    some ((-5), M)
  else
    xrd 2 (M.1 3) p1 fun x2 =>
    if x2 = nI 0 then
      some ((-8), M)
    else
      fX7_restore_L26 p1 (fun M5 => 
  xrd 431 (M5.1 1) (nI 0) fun x6 =>
  some (x6, M5)) 512 M (nI 0)
