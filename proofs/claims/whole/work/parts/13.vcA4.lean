set_option maxRecDepth 100000 in
set_option maxHeartbeats 1000000 in
theorem vLa_held {E : rE} {d : Nat} {Post : rPost} {h : rHp} {a1 : Int32} {a2 : Int32} (H : Post (some (pI (if (0:Int32) < (if a1 < a2 then a1 else a2) then (if a1 < a2 then a1 else a2) else (0:Int32)))) SH h) : rCall E (d + 1) mLa_held [pI a1, pI a2] SH h Post := rEx_ok (zCut []) 7 H
