def B_X11_part (rec : (Int32 → SS → Option (Int32 × SS))) (a1 : Int32) (σ : SS) : Option (Int32 × SS) :=
  if (sI σ 8) < 0 then
    gI (sI (uI σ 6 ((sI σ 6) + 1)) 6) 310 <|
    gI (sI (uI σ 6 ((sI σ 6) + 1)) 6) 310 <|
    gI (sI (uI σ 6 ((sI σ 6) + 1)) 6) 310 <|
    gI (sI (uI σ 6 ((sI σ 6) + 1)) 6) 310 <|
    gI (sI (uI σ 6 ((sI σ 6) + 1)) 6) 310 <|
    gI (sI (uI σ 6 ((sI σ 6) + 1)) 6) 310 <|
    gI a1 16 <|
    if (ldA (stL (stA (stA (stA (stA (stA (uI σ 6 ((sI σ 6) + 1)) 10 (sI (uI σ 6 ((sI σ 6) + 1)) 6) a1) 11 (sI (uI σ 6 ((sI σ 6) + 1)) 6) (sI (stA (uI σ 6 ((sI σ 6) + 1)) 10 (sI (uI σ 6 ((sI σ 6) + 1)) 6) a1) 7)) 12 (sI (uI σ 6 ((sI σ 6) + 1)) 6) 0) 13 (sI (uI σ 6 ((sI σ 6) + 1)) 6) 0) 14 (sI (uI σ 6 ((sI σ 6) + 1)) 6) 0) 2 (sI (uI σ 6 ((sI σ 6) + 1)) 6) 0) 0 a1) = 0 then
      gI a1 16 <|
      (P_X11_need (97 + (ldA (stL (stA (stA (stA (stA (stA (uI σ 6 ((sI σ 6) + 1)) 10 (sI (uI σ 6 ((sI σ 6) + 1)) 6) a1) 11 (sI (uI σ 6 ((sI σ 6) + 1)) 6) (sI (stA (uI σ 6 ((sI σ 6) + 1)) 10 (sI (uI σ 6 ((sI σ 6) + 1)) 6) a1) 7)) 12 (sI (uI σ 6 ((sI σ 6) + 1)) 6) 0) 13 (sI (uI σ 6 ((sI σ 6) + 1)) 6) 0) 14 (sI (uI σ 6 ((sI σ 6) + 1)) 6) 0) 2 (sI (uI σ 6 ((sI σ 6) + 1)) 6) 0) 2 a1)) (stL (stA (stA (stA (stA (stA (uI σ 6 ((sI σ 6) + 1)) 10 (sI (uI σ 6 ((sI σ 6) + 1)) 6) a1) 11 (sI (uI σ 6 ((sI σ 6) + 1)) 6) (sI (stA (uI σ 6 ((sI σ 6) + 1)) 10 (sI (uI σ 6 ((sI σ 6) + 1)) 6) a1) 7)) 12 (sI (uI σ 6 ((sI σ 6) + 1)) 6) 0) 13 (sI (uI σ 6 ((sI σ 6) + 1)) 6) 0) 14 (sI (uI σ 6 ((sI σ 6) + 1)) 6) 0) 2 (sI (uI σ 6 ((sI σ 6) + 1)) 6) 0)).bind fun σ12 =>
      gI a1 16 <|
      gI (sI (uI σ 6 ((sI σ 6) + 1)) 6) 310 <|
      some ((sI (uI σ 6 ((sI σ 6) + 1)) 6), (stA σ12 12 (sI (uI σ 6 ((sI σ 6) + 1)) 6) (ldA σ12 1 a1)))
    else
      if (ldA (stL (stA (stA (stA (stA (stA (uI σ 6 ((sI σ 6) + 1)) 10 (sI (uI σ 6 ((sI σ 6) + 1)) 6) a1) 11 (sI (uI σ 6 ((sI σ 6) + 1)) 6) (sI (stA (uI σ 6 ((sI σ 6) + 1)) 10 (sI (uI σ 6 ((sI σ 6) + 1)) 6) a1) 7)) 12 (sI (uI σ 6 ((sI σ 6) + 1)) 6) 0) 13 (sI (uI σ 6 ((sI σ 6) + 1)) 6) 0) 14 (sI (uI σ 6 ((sI σ 6) + 1)) 6) 0) 2 (sI (uI σ 6 ((sI σ 6) + 1)) 6) 0) 0 a1) = 1 then
        (P_X11_need 46 (stL (stA (stA (stA (stA (stA (uI σ 6 ((sI σ 6) + 1)) 10 (sI (uI σ 6 ((sI σ 6) + 1)) 6) a1) 11 (sI (uI σ 6 ((sI σ 6) + 1)) 6) (sI (stA (uI σ 6 ((sI σ 6) + 1)) 10 (sI (uI σ 6 ((sI σ 6) + 1)) 6) a1) 7)) 12 (sI (uI σ 6 ((sI σ 6) + 1)) 6) 0) 13 (sI (uI σ 6 ((sI σ 6) + 1)) 6) 0) 14 (sI (uI σ 6 ((sI σ 6) + 1)) 6) 0) 2 (sI (uI σ 6 ((sI σ 6) + 1)) 6) 0)).bind fun σ17 =>
        some ((sI (uI σ 6 ((sI σ 6) + 1)) 6), σ17)
      else
        if (ldA (stL (stA (stA (stA (stA (stA (uI σ 6 ((sI σ 6) + 1)) 10 (sI (uI σ 6 ((sI σ 6) + 1)) 6) a1) 11 (sI (uI σ 6 ((sI σ 6) + 1)) 6) (sI (stA (uI σ 6 ((sI σ 6) + 1)) 10 (sI (uI σ 6 ((sI σ 6) + 1)) 6) a1) 7)) 12 (sI (uI σ 6 ((sI σ 6) + 1)) 6) 0) 13 (sI (uI σ 6 ((sI σ 6) + 1)) 6) 0) 14 (sI (uI σ 6 ((sI σ 6) + 1)) 6) 0) 2 (sI (uI σ 6 ((sI σ 6) + 1)) 6) 0) 0 a1) = 2 then
          (P_X11_need 40 (stL (stA (stA (stA (stA (stA (uI σ 6 ((sI σ 6) + 1)) 10 (sI (uI σ 6 ((sI σ 6) + 1)) 6) a1) 11 (sI (uI σ 6 ((sI σ 6) + 1)) 6) (sI (stA (uI σ 6 ((sI σ 6) + 1)) 10 (sI (uI σ 6 ((sI σ 6) + 1)) 6) a1) 7)) 12 (sI (uI σ 6 ((sI σ 6) + 1)) 6) 0) 13 (sI (uI σ 6 ((sI σ 6) + 1)) 6) 0) 14 (sI (uI σ 6 ((sI σ 6) + 1)) 6) 0) 2 (sI (uI σ 6 ((sI σ 6) + 1)) 6) 0)).bind fun σ20 =>
          gI a1 16 <|
          b2 (rec (ldA σ20 1 a1) σ20) fun v23 σ24 =>
          (P_X11_within (sI (uI σ 6 ((sI σ 6) + 1)) 6) v23 0 σ24).bind fun σ26 =>
          gI a1 16 <|
          b2 (rec (ldA σ26 2 a1) σ26) fun v29 σ30 =>
          gI (sI (uI σ 6 ((sI σ 6) + 1)) 6) 310 <|
          (P_X11_within (sI (uI σ 6 ((sI σ 6) + 1)) 6) v29 (ldA σ30 13 (sI (uI σ 6 ((sI σ 6) + 1)) 6)) σ30).bind fun σ33 =>
          (P_X11_need 41 σ33).bind fun σ35 =>
          some ((sI (uI σ 6 ((sI σ 6) + 1)) 6), σ35)
        else
          if (ldA (stL (stA (stA (stA (stA (stA (uI σ 6 ((sI σ 6) + 1)) 10 (sI (uI σ 6 ((sI σ 6) + 1)) 6) a1) 11 (sI (uI σ 6 ((sI σ 6) + 1)) 6) (sI (stA (uI σ 6 ((sI σ 6) + 1)) 10 (sI (uI σ 6 ((sI σ 6) + 1)) 6) a1) 7)) 12 (sI (uI σ 6 ((sI σ 6) + 1)) 6) 0) 13 (sI (uI σ 6 ((sI σ 6) + 1)) 6) 0) 14 (sI (uI σ 6 ((sI σ 6) + 1)) 6) 0) 2 (sI (uI σ 6 ((sI σ 6) + 1)) 6) 0) 0 a1) = 3 then
            (P_X11_eitherPart rec (sI (uI σ 6 ((sI σ 6) + 1)) 6) a1 (stL (stA (stA (stA (stA (stA (uI σ 6 ((sI σ 6) + 1)) 10 (sI (uI σ 6 ((sI σ 6) + 1)) 6) a1) 11 (sI (uI σ 6 ((sI σ 6) + 1)) 6) (sI (stA (uI σ 6 ((sI σ 6) + 1)) 10 (sI (uI σ 6 ((sI σ 6) + 1)) 6) a1) 7)) 12 (sI (uI σ 6 ((sI σ 6) + 1)) 6) 0) 13 (sI (uI σ 6 ((sI σ 6) + 1)) 6) 0) 14 (sI (uI σ 6 ((sI σ 6) + 1)) 6) 0) 2 (sI (uI σ 6 ((sI σ 6) + 1)) 6) 0)).bind fun σ38 =>
            some ((sI (uI σ 6 ((sI σ 6) + 1)) 6), σ38)
          else
            if (ldA (stL (stA (stA (stA (stA (stA (uI σ 6 ((sI σ 6) + 1)) 10 (sI (uI σ 6 ((sI σ 6) + 1)) 6) a1) 11 (sI (uI σ 6 ((sI σ 6) + 1)) 6) (sI (stA (uI σ 6 ((sI σ 6) + 1)) 10 (sI (uI σ 6 ((sI σ 6) + 1)) 6) a1) 7)) 12 (sI (uI σ 6 ((sI σ 6) + 1)) 6) 0) 13 (sI (uI σ 6 ((sI σ 6) + 1)) 6) 0) 14 (sI (uI σ 6 ((sI σ 6) + 1)) 6) 0) 2 (sI (uI σ 6 ((sI σ 6) + 1)) 6) 0) 0 a1) = 4 then
              (P_X11_several rec (sI (uI σ 6 ((sI σ 6) + 1)) 6) a1 (stL (stA (stA (stA (stA (stA (uI σ 6 ((sI σ 6) + 1)) 10 (sI (uI σ 6 ((sI σ 6) + 1)) 6) a1) 11 (sI (uI σ 6 ((sI σ 6) + 1)) 6) (sI (stA (uI σ 6 ((sI σ 6) + 1)) 10 (sI (uI σ 6 ((sI σ 6) + 1)) 6) a1) 7)) 12 (sI (uI σ 6 ((sI σ 6) + 1)) 6) 0) 13 (sI (uI σ 6 ((sI σ 6) + 1)) 6) 0) 14 (sI (uI σ 6 ((sI σ 6) + 1)) 6) 0) 2 (sI (uI σ 6 ((sI σ 6) + 1)) 6) 0)).bind fun σ41 =>
              some ((sI (uI σ 6 ((sI σ 6) + 1)) 6), σ41)
            else
              if (ldA (stL (stA (stA (stA (stA (stA (uI σ 6 ((sI σ 6) + 1)) 10 (sI (uI σ 6 ((sI σ 6) + 1)) 6) a1) 11 (sI (uI σ 6 ((sI σ 6) + 1)) 6) (sI (stA (uI σ 6 ((sI σ 6) + 1)) 10 (sI (uI σ 6 ((sI σ 6) + 1)) 6) a1) 7)) 12 (sI (uI σ 6 ((sI σ 6) + 1)) 6) 0) 13 (sI (uI σ 6 ((sI σ 6) + 1)) 6) 0) 14 (sI (uI σ 6 ((sI σ 6) + 1)) 6) 0) 2 (sI (uI σ 6 ((sI σ 6) + 1)) 6) 0) 0 a1) = 5 then
                (P_X11_several rec (sI (uI σ 6 ((sI σ 6) + 1)) 6) a1 (stL (stA (stA (stA (stA (stA (uI σ 6 ((sI σ 6) + 1)) 10 (sI (uI σ 6 ((sI σ 6) + 1)) 6) a1) 11 (sI (uI σ 6 ((sI σ 6) + 1)) 6) (sI (stA (uI σ 6 ((sI σ 6) + 1)) 10 (sI (uI σ 6 ((sI σ 6) + 1)) 6) a1) 7)) 12 (sI (uI σ 6 ((sI σ 6) + 1)) 6) 0) 13 (sI (uI σ 6 ((sI σ 6) + 1)) 6) 0) 14 (sI (uI σ 6 ((sI σ 6) + 1)) 6) 0) 2 (sI (uI σ 6 ((sI σ 6) + 1)) 6) 0)).bind fun σ44 =>
                some ((sI (uI σ 6 ((sI σ 6) + 1)) 6), σ44)
              else
                if (ldA (stL (stA (stA (stA (stA (stA (uI σ 6 ((sI σ 6) + 1)) 10 (sI (uI σ 6 ((sI σ 6) + 1)) 6) a1) 11 (sI (uI σ 6 ((sI σ 6) + 1)) 6) (sI (stA (uI σ 6 ((sI σ 6) + 1)) 10 (sI (uI σ 6 ((sI σ 6) + 1)) 6) a1) 7)) 12 (sI (uI σ 6 ((sI σ 6) + 1)) 6) 0) 13 (sI (uI σ 6 ((sI σ 6) + 1)) 6) 0) 14 (sI (uI σ 6 ((sI σ 6) + 1)) 6) 0) 2 (sI (uI σ 6 ((sI σ 6) + 1)) 6) 0) 0 a1) = 6 then
                  (P_X11_several rec (sI (uI σ 6 ((sI σ 6) + 1)) 6) a1 (stL (stA (stA (stA (stA (stA (uI σ 6 ((sI σ 6) + 1)) 10 (sI (uI σ 6 ((sI σ 6) + 1)) 6) a1) 11 (sI (uI σ 6 ((sI σ 6) + 1)) 6) (sI (stA (uI σ 6 ((sI σ 6) + 1)) 10 (sI (uI σ 6 ((sI σ 6) + 1)) 6) a1) 7)) 12 (sI (uI σ 6 ((sI σ 6) + 1)) 6) 0) 13 (sI (uI σ 6 ((sI σ 6) + 1)) 6) 0) 14 (sI (uI σ 6 ((sI σ 6) + 1)) 6) 0) 2 (sI (uI σ 6 ((sI σ 6) + 1)) 6) 0)).bind fun σ47 =>
                  some ((sI (uI σ 6 ((sI σ 6) + 1)) 6), σ47)
                else
                  if (ldA (stL (stA (stA (stA (stA (stA (uI σ 6 ((sI σ 6) + 1)) 10 (sI (uI σ 6 ((sI σ 6) + 1)) 6) a1) 11 (sI (uI σ 6 ((sI σ 6) + 1)) 6) (sI (stA (uI σ 6 ((sI σ 6) + 1)) 10 (sI (uI σ 6 ((sI σ 6) + 1)) 6) a1) 7)) 12 (sI (uI σ 6 ((sI σ 6) + 1)) 6) 0) 13 (sI (uI σ 6 ((sI σ 6) + 1)) 6) 0) 14 (sI (uI σ 6 ((sI σ 6) + 1)) 6) 0) 2 (sI (uI σ 6 ((sI σ 6) + 1)) 6) 0) 0 a1) = 7 then
                    (P_X11_need 33 (stL (stA (stA (stA (stA (stA (uI σ 6 ((sI σ 6) + 1)) 10 (sI (uI σ 6 ((sI σ 6) + 1)) 6) a1) 11 (sI (uI σ 6 ((sI σ 6) + 1)) 6) (sI (stA (uI σ 6 ((sI σ 6) + 1)) 10 (sI (uI σ 6 ((sI σ 6) + 1)) 6) a1) 7)) 12 (sI (uI σ 6 ((sI σ 6) + 1)) 6) 0) 13 (sI (uI σ 6 ((sI σ 6) + 1)) 6) 0) 14 (sI (uI σ 6 ((sI σ 6) + 1)) 6) 0) 2 (sI (uI σ 6 ((sI σ 6) + 1)) 6) 0)).bind fun σ50 =>
                    gI a1 16 <|
                    b2 (rec (ldA σ50 1 a1) σ50) fun v53 σ54 =>
                    (P_X11_within (sI (uI σ 6 ((sI σ 6) + 1)) 6) v53 0 σ54).bind fun σ56 =>
                    some ((sI (uI σ 6 ((sI σ 6) + 1)) 6), σ56)
                  else
                    if (ldA (stL (stA (stA (stA (stA (stA (uI σ 6 ((sI σ 6) + 1)) 10 (sI (uI σ 6 ((sI σ 6) + 1)) 6) a1) 11 (sI (uI σ 6 ((sI σ 6) + 1)) 6) (sI (stA (uI σ 6 ((sI σ 6) + 1)) 10 (sI (uI σ 6 ((sI σ 6) + 1)) 6) a1) 7)) 12 (sI (uI σ 6 ((sI σ 6) + 1)) 6) 0) 13 (sI (uI σ 6 ((sI σ 6) + 1)) 6) 0) 14 (sI (uI σ 6 ((sI σ 6) + 1)) 6) 0) 2 (sI (uI σ 6 ((sI σ 6) + 1)) 6) 0) 0 a1) = 8 then
                      gI a1 16 <|
                      (P_X11_letters (sI (uI σ 6 ((sI σ 6) + 1)) 6) (ldA (stL (stA (stA (stA (stA (stA (uI σ 6 ((sI σ 6) + 1)) 10 (sI (uI σ 6 ((sI σ 6) + 1)) 6) a1) 11 (sI (uI σ 6 ((sI σ 6) + 1)) 6) (sI (stA (uI σ 6 ((sI σ 6) + 1)) 10 (sI (uI σ 6 ((sI σ 6) + 1)) 6) a1) 7)) 12 (sI (uI σ 6 ((sI σ 6) + 1)) 6) 0) 13 (sI (uI σ 6 ((sI σ 6) + 1)) 6) 0) 14 (sI (uI σ 6 ((sI σ 6) + 1)) 6) 0) 2 (sI (uI σ 6 ((sI σ 6) + 1)) 6) 0) 1 a1) (stL (stA (stA (stA (stA (stA (uI σ 6 ((sI σ 6) + 1)) 10 (sI (uI σ 6 ((sI σ 6) + 1)) 6) a1) 11 (sI (uI σ 6 ((sI σ 6) + 1)) 6) (sI (stA (uI σ 6 ((sI σ 6) + 1)) 10 (sI (uI σ 6 ((sI σ 6) + 1)) 6) a1) 7)) 12 (sI (uI σ 6 ((sI σ 6) + 1)) 6) 0) 13 (sI (uI σ 6 ((sI σ 6) + 1)) 6) 0) 14 (sI (uI σ 6 ((sI σ 6) + 1)) 6) 0) 2 (sI (uI σ 6 ((sI σ 6) + 1)) 6) 0)).bind fun σ60 =>
                      some ((sI (uI σ 6 ((sI σ 6) + 1)) 6), σ60)
                    else
                      (P_X11_several rec (sI (uI σ 6 ((sI σ 6) + 1)) 6) a1 (stL (stA (stA (stA (stA (stA (uI σ 6 ((sI σ 6) + 1)) 10 (sI (uI σ 6 ((sI σ 6) + 1)) 6) a1) 11 (sI (uI σ 6 ((sI σ 6) + 1)) 6) (sI (stA (uI σ 6 ((sI σ 6) + 1)) 10 (sI (uI σ 6 ((sI σ 6) + 1)) 6) a1) 7)) 12 (sI (uI σ 6 ((sI σ 6) + 1)) 6) 0) 13 (sI (uI σ 6 ((sI σ 6) + 1)) 6) 0) 14 (sI (uI σ 6 ((sI σ 6) + 1)) 6) 0) 2 (sI (uI σ 6 ((sI σ 6) + 1)) 6) 0)).bind fun σ62 =>
                      some ((sI (uI σ 6 ((sI σ 6) + 1)) 6), σ62)
  else
    some (0, σ)
set_option maxHeartbeats 4000000 in
set_option maxRecDepth 100000 in
theorem TB_X11_part {X : XE} {e : Nat} (he : 3 ≤ e) {rec : (Int32 → SS → Option (Int32 × SS))} (hrec : ∀ (a r : Int32) (σ σ1 : SS), rec a σ = some (r, σ1) → Mt (gM X) e yX11_part cX11_part 3 (some .int) [.ref (xq X 0), .int a] σ (some (.int r)) σ1) {σf : SS} {r : Int32} {σ : SS} {a1 : Int32} (h : B_X11_part rec a1 σ = some (r, σf)) : Mt (gM X) (e + 2) yX11_part cX11_part 3 (some .int) [.ref (xq X 0), .int a1] σ (some (.int r)) σf := by
  refine Mt.of (own := RX11) (lv := [(0, .ref (xq X 0)), (1, .int a1)]) pn_X11 rfl (Nat.le_of_ble_eq_true rfl) rfl ?_
  unfold B_X11_part at h
  refine r_aload_n 0 dX11_part_0 rfl rfl rfl ?_
  refine gf_X11_263_0 dX11_part_1 rfl ?_
  refine r_if_lt (t := 9) dX11_part_4 (by decide) rfl (fun c1 => ?_) (fun c1 => ?_)
  · have h := it_t c1 h
    refine r_aload_n 0 dX11_part_9 rfl rfl rfl ?_
    refine r_dup rfl dX11_part_10 rfl ?_
    refine gf_X11_270_0 dX11_part_11 rfl ?_
    refine ric_1 dX11_part_14 rfl ?_
    refine r_iadd dX11_part_15 rfl ?_
    refine pf_X11_270_0 dX11_part_16 rfl ?_
    refine r_aload_n 0 dX11_part_19 rfl rfl rfl ?_
    refine gf_X11_270_0 dX11_part_20 rfl ?_
    refine r_istore_n (lv' := [(2, .int (sI (uI σ 6 ((sI σ 6) + 1)) 6)), (0, .ref (xq X 0)), (1, .int a1)]) dX11_part_23 rfl (by decide) rfl rfl ?_
    refine r_aload_n 1 dX11_part_24 rfl rfl rfl ?_
    refine gf_X11_48_0 dX11_part_25 rfl ?_
    refine r_iload_n 0 dX11_part_28 rfl rfl rfl ?_
    refine r_iload_n 2 dX11_part_29 rfl rfl rfl ?_
    obtain ⟨hi2, h⟩ := gi h
    refine asM_13 hi2 dX11_part_30 rfl ?_
    refine r_aload_n 1 dX11_part_31 rfl rfl rfl ?_
    refine gf_X11_51_0 dX11_part_32 rfl ?_
    refine r_iload_n 0 dX11_part_35 rfl rfl rfl ?_
    refine r_aload_n 1 dX11_part_36 rfl rfl rfl ?_
    refine gf_X11_260_0 dX11_part_37 rfl ?_
    obtain ⟨hi3, h⟩ := gi h
    refine asM_14 hi3 dX11_part_40 rfl ?_
    refine r_aload_n 1 dX11_part_41 rfl rfl rfl ?_
    refine gf_X11_54_0 dX11_part_42 rfl ?_
    refine r_iload_n 0 dX11_part_45 rfl rfl rfl ?_
    refine ric_0 dX11_part_46 rfl ?_
    obtain ⟨hi4, h⟩ := gi h
    refine asM_15 hi4 dX11_part_47 rfl ?_
    refine r_aload_n 1 dX11_part_48 rfl rfl rfl ?_
    refine gf_X11_57_0 dX11_part_49 rfl ?_
    refine r_iload_n 0 dX11_part_52 rfl rfl rfl ?_
    refine ric_0 dX11_part_53 rfl ?_
    obtain ⟨hi5, h⟩ := gi h
    refine asM_16 hi5 dX11_part_54 rfl ?_
    refine r_aload_n 1 dX11_part_55 rfl rfl rfl ?_
    refine gf_X11_60_0 dX11_part_56 rfl ?_
    refine r_iload_n 0 dX11_part_59 rfl rfl rfl ?_
    refine ric_0 dX11_part_60 rfl ?_
    obtain ⟨hi6, h⟩ := gi h
    refine asM_17 hi6 dX11_part_61 rfl ?_
    refine r_aload_n 1 dX11_part_62 rfl rfl rfl ?_
    refine gf_X11_63_0 dX11_part_63 rfl ?_
    refine r_iload_n 0 dX11_part_66 rfl rfl rfl ?_
    refine rlc_0 dX11_part_67 rfl ?_
    obtain ⟨hi7, h⟩ := gi h
    refine asM_18 hi7 dX11_part_68 rfl ?_
    refine r_aload_n 1 dX11_part_69 rfl rfl rfl ?_
    refine gf_X11_7_0 dX11_part_70 rfl ?_
    refine r_iload_n 2 dX11_part_73 rfl rfl rfl ?_
    obtain ⟨hi8, h⟩ := gi h
    refine alM_1 hi8 dX11_part_74 rfl ?_
    by_cases c9 : (ldA (stL (stA (stA (stA (stA (stA (uI σ 6 ((sI σ 6) + 1)) 10 (sI (uI σ 6 ((sI σ 6) + 1)) 6) a1) 11 (sI (uI σ 6 ((sI σ 6) + 1)) 6) (sI (stA (uI σ 6 ((sI σ 6) + 1)) 10 (sI (uI σ 6 ((sI σ 6) + 1)) 6) a1) 7)) 12 (sI (uI σ 6 ((sI σ 6) + 1)) 6) 0) 13 (sI (uI σ 6 ((sI σ 6) + 1)) 6) 0) 14 (sI (uI σ 6 ((sI σ 6) + 1)) 6) 0) 2 (sI (uI σ 6 ((sI σ 6) + 1)) 6) 0) 0 a1) = 0
    · have h := it_t c9 h
      refine r_tableIn (t := 124) dX11_part_75 (by rw [c9]; decide) (by rw [c9]; decide) (by rw [c9]; rfl) (by decide) ?_
      refine r_aload_n 1 dX11_part_124 rfl rfl rfl ?_
      refine r_bipush (v := 97) dX11_part_125 (by decide) rfl ?_
      refine r_aload_n 1 dX11_part_127 rfl rfl rfl ?_
      refine gf_X11_16_0 dX11_part_128 rfl ?_
      refine r_iload_n 2 dX11_part_131 rfl rfl rfl ?_
      obtain ⟨hi10, h⟩ := gi h
      refine alM_3 hi10 dX11_part_132 rfl ?_
      refine r_iadd dX11_part_133 rfl ?_
      obtain ⟨σ12, e11, h⟩ := bd h
      refine r_callV (rest := []) (T_X11_need e11) (by omega) mf_X11_need rfl tw_1267 tw_70 tw_1265 cM_0 rfl rfl rfl (Nat.le_of_ble_eq_true rfl) dX11_part_134 rfl ?_
      refine r_calln ?_
      refine r_aload_n 1 dX11_part_137 rfl rfl rfl ?_
      refine gf_X11_54_0 dX11_part_138 rfl ?_
      refine r_iload_n 0 dX11_part_141 rfl rfl rfl ?_
      refine r_aload_n 1 dX11_part_142 rfl rfl rfl ?_
      refine gf_X11_13_0 dX11_part_143 rfl ?_
      refine r_iload_n 2 dX11_part_146 rfl rfl rfl ?_
      obtain ⟨hi13, h⟩ := gi h
      refine alM_2 hi13 dX11_part_147 rfl ?_
      obtain ⟨hi14, h⟩ := gi h
      refine asM_15 hi14 dX11_part_148 rfl ?_
      refine r_goto (t := 267) dX11_part_149 (by decide) ?_
      refine r_iload_n 0 dX11_part_267 rfl rfl rfl ?_
      exact r_iretQ dX11_part_268 h
    · have h := it_f c9 h
      by_cases c15 : (ldA (stL (stA (stA (stA (stA (stA (uI σ 6 ((sI σ 6) + 1)) 10 (sI (uI σ 6 ((sI σ 6) + 1)) 6) a1) 11 (sI (uI σ 6 ((sI σ 6) + 1)) 6) (sI (stA (uI σ 6 ((sI σ 6) + 1)) 10 (sI (uI σ 6 ((sI σ 6) + 1)) 6) a1) 7)) 12 (sI (uI σ 6 ((sI σ 6) + 1)) 6) 0) 13 (sI (uI σ 6 ((sI σ 6) + 1)) 6) 0) 14 (sI (uI σ 6 ((sI σ 6) + 1)) 6) 0) 2 (sI (uI σ 6 ((sI σ 6) + 1)) 6) 0) 0 a1) = 1
      · have h := it_t c15 h
        refine r_tableIn (t := 152) dX11_part_75 (by rw [c15]; decide) (by rw [c15]; decide) (by rw [c15]; rfl) (by decide) ?_
        refine r_aload_n 1 dX11_part_152 rfl rfl rfl ?_
        refine r_bipush (v := 46) dX11_part_153 (by decide) rfl ?_
        obtain ⟨σ17, e16, h⟩ := bd h
        refine r_callV (rest := []) (T_X11_need e16) (by omega) mf_X11_need rfl tw_1267 tw_70 tw_1265 cM_0 rfl rfl rfl (Nat.le_of_ble_eq_true rfl) dX11_part_155 rfl ?_
        refine r_calln ?_
        refine r_goto (t := 267) dX11_part_158 (by decide) ?_
        refine r_iload_n 0 dX11_part_267 rfl rfl rfl ?_
        exact r_iretQ dX11_part_268 h
      · have h := it_f c15 h
        by_cases c18 : (ldA (stL (stA (stA (stA (stA (stA (uI σ 6 ((sI σ 6) + 1)) 10 (sI (uI σ 6 ((sI σ 6) + 1)) 6) a1) 11 (sI (uI σ 6 ((sI σ 6) + 1)) 6) (sI (stA (uI σ 6 ((sI σ 6) + 1)) 10 (sI (uI σ 6 ((sI σ 6) + 1)) 6) a1) 7)) 12 (sI (uI σ 6 ((sI σ 6) + 1)) 6) 0) 13 (sI (uI σ 6 ((sI σ 6) + 1)) 6) 0) 14 (sI (uI σ 6 ((sI σ 6) + 1)) 6) 0) 2 (sI (uI σ 6 ((sI σ 6) + 1)) 6) 0) 0 a1) = 2
        · have h := it_t c18 h
          refine r_tableIn (t := 161) dX11_part_75 (by rw [c18]; decide) (by rw [c18]; decide) (by rw [c18]; rfl) (by decide) ?_
          refine r_aload_n 1 dX11_part_161 rfl rfl rfl ?_
          refine r_bipush (v := 40) dX11_part_162 (by decide) rfl ?_
          obtain ⟨σ20, e19, h⟩ := bd h
          refine r_callV (rest := []) (T_X11_need e19) (by omega) mf_X11_need rfl tw_1267 tw_70 tw_1265 cM_0 rfl rfl rfl (Nat.le_of_ble_eq_true rfl) dX11_part_164 rfl ?_
          refine r_calln ?_
          refine r_aload_n 1 dX11_part_167 rfl rfl rfl ?_
          refine r_iload_n 0 dX11_part_168 rfl rfl rfl ?_
          refine r_aload_n 1 dX11_part_169 rfl rfl rfl ?_
          refine r_aload_n 1 dX11_part_170 rfl rfl rfl ?_
          refine gf_X11_13_0 dX11_part_171 rfl ?_
          refine r_iload_n 2 dX11_part_174 rfl rfl rfl ?_
          obtain ⟨hi21, h⟩ := gi h
          refine alM_2 hi21 dX11_part_175 rfl ?_
          obtain ⟨v23, σ24, e22, h⟩ := b2d h
          refine r_callV (rest := [.int (sI (uI σ 6 ((sI σ 6) + 1)) 6), .ref (xq X 0)]) (hrec _ _ _ _ e22) (by omega) mf_X11_part rfl tw_1263 tw_69 tw_1261 cM_0 rfl rfl rfl (Nat.le_of_ble_eq_true rfl) dX11_part_176 rfl ?_
          refine r_call0 ?_
          refine ric_0 dX11_part_179 rfl ?_
          obtain ⟨σ26, e25, h⟩ := bd h
          refine r_callV (rest := []) (T_X11_within e25) (by omega) mf_X11_within rfl tw_1275 tw_72 tw_1273 cM_0 rfl rfl rfl (Nat.le_of_ble_eq_true rfl) dX11_part_180 rfl ?_
          refine r_calln ?_
          refine r_aload_n 1 dX11_part_183 rfl rfl rfl ?_
          refine r_iload_n 0 dX11_part_184 rfl rfl rfl ?_
          refine r_aload_n 1 dX11_part_185 rfl rfl rfl ?_
          refine r_aload_n 1 dX11_part_186 rfl rfl rfl ?_
          refine gf_X11_16_0 dX11_part_187 rfl ?_
          refine r_iload_n 2 dX11_part_190 rfl rfl rfl ?_
          obtain ⟨hi27, h⟩ := gi h
          refine alM_3 hi27 dX11_part_191 rfl ?_
          obtain ⟨v29, σ30, e28, h⟩ := b2d h
          refine r_callV (rest := [.int (sI (uI σ 6 ((sI σ 6) + 1)) 6), .ref (xq X 0)]) (hrec _ _ _ _ e28) (by omega) mf_X11_part rfl tw_1263 tw_69 tw_1261 cM_0 rfl rfl rfl (Nat.le_of_ble_eq_true rfl) dX11_part_192 rfl ?_
          refine r_call0 ?_
          refine r_aload_n 1 dX11_part_195 rfl rfl rfl ?_
          refine gf_X11_57_0 dX11_part_196 rfl ?_
          refine r_iload_n 0 dX11_part_199 rfl rfl rfl ?_
          obtain ⟨hi31, h⟩ := gi h
          refine alM_16 hi31 dX11_part_200 rfl ?_
          obtain ⟨σ33, e32, h⟩ := bd h
          refine r_callV (rest := []) (T_X11_within e32) (by omega) mf_X11_within rfl tw_1275 tw_72 tw_1273 cM_0 rfl rfl rfl (Nat.le_of_ble_eq_true rfl) dX11_part_201 rfl ?_
          refine r_calln ?_
          refine r_aload_n 1 dX11_part_204 rfl rfl rfl ?_
          refine r_bipush (v := 41) dX11_part_205 (by decide) rfl ?_
          obtain ⟨σ35, e34, h⟩ := bd h
          refine r_callV (rest := []) (T_X11_need e34) (by omega) mf_X11_need rfl tw_1267 tw_70 tw_1265 cM_0 rfl rfl rfl (Nat.le_of_ble_eq_true rfl) dX11_part_207 rfl ?_
          refine r_calln ?_
          refine r_goto (t := 267) dX11_part_210 (by decide) ?_
          refine r_iload_n 0 dX11_part_267 rfl rfl rfl ?_
          exact r_iretQ dX11_part_268 h
        · have h := it_f c18 h
          by_cases c36 : (ldA (stL (stA (stA (stA (stA (stA (uI σ 6 ((sI σ 6) + 1)) 10 (sI (uI σ 6 ((sI σ 6) + 1)) 6) a1) 11 (sI (uI σ 6 ((sI σ 6) + 1)) 6) (sI (stA (uI σ 6 ((sI σ 6) + 1)) 10 (sI (uI σ 6 ((sI σ 6) + 1)) 6) a1) 7)) 12 (sI (uI σ 6 ((sI σ 6) + 1)) 6) 0) 13 (sI (uI σ 6 ((sI σ 6) + 1)) 6) 0) 14 (sI (uI σ 6 ((sI σ 6) + 1)) 6) 0) 2 (sI (uI σ 6 ((sI σ 6) + 1)) 6) 0) 0 a1) = 3
          · have h := it_t c36 h
            refine r_tableIn (t := 213) dX11_part_75 (by rw [c36]; decide) (by rw [c36]; decide) (by rw [c36]; rfl) (by decide) ?_
            refine r_aload_n 1 dX11_part_213 rfl rfl rfl ?_
            refine r_iload_n 0 dX11_part_214 rfl rfl rfl ?_
            refine r_iload_n 2 dX11_part_215 rfl rfl rfl ?_
            obtain ⟨σ38, e37, h⟩ := bd h
            refine r_callV (rest := []) (T_X11_eitherPart he hrec e37) (by omega) mf_X11_eitherPart rfl tw_1279 tw_73 tw_1277 cM_0 rfl rfl rfl (Nat.le_of_ble_eq_true rfl) dX11_part_216 rfl ?_
            refine r_calln ?_
            refine r_goto (t := 267) dX11_part_219 (by decide) ?_
            refine r_iload_n 0 dX11_part_267 rfl rfl rfl ?_
            exact r_iretQ dX11_part_268 h
          · have h := it_f c36 h
            by_cases c39 : (ldA (stL (stA (stA (stA (stA (stA (uI σ 6 ((sI σ 6) + 1)) 10 (sI (uI σ 6 ((sI σ 6) + 1)) 6) a1) 11 (sI (uI σ 6 ((sI σ 6) + 1)) 6) (sI (stA (uI σ 6 ((sI σ 6) + 1)) 10 (sI (uI σ 6 ((sI σ 6) + 1)) 6) a1) 7)) 12 (sI (uI σ 6 ((sI σ 6) + 1)) 6) 0) 13 (sI (uI σ 6 ((sI σ 6) + 1)) 6) 0) 14 (sI (uI σ 6 ((sI σ 6) + 1)) 6) 0) 2 (sI (uI σ 6 ((sI σ 6) + 1)) 6) 0) 0 a1) = 4
            · have h := it_t c39 h
              refine r_tableIn (t := 261) dX11_part_75 (by rw [c39]; decide) (by rw [c39]; decide) (by rw [c39]; rfl) (by decide) ?_
              refine r_aload_n 1 dX11_part_261 rfl rfl rfl ?_
              refine r_iload_n 0 dX11_part_262 rfl rfl rfl ?_
              refine r_iload_n 2 dX11_part_263 rfl rfl rfl ?_
              obtain ⟨σ41, e40, h⟩ := bd h
              refine r_callV (rest := []) (T_X11_several he hrec e40) (by omega) mf_X11_several rfl tw_1287 tw_75 tw_1285 cM_0 rfl rfl rfl (Nat.le_of_ble_eq_true rfl) dX11_part_264 rfl ?_
              refine r_calln ?_
              refine r_iload_n 0 dX11_part_267 rfl rfl rfl ?_
              exact r_iretQ dX11_part_268 h
            · have h := it_f c39 h
              by_cases c42 : (ldA (stL (stA (stA (stA (stA (stA (uI σ 6 ((sI σ 6) + 1)) 10 (sI (uI σ 6 ((sI σ 6) + 1)) 6) a1) 11 (sI (uI σ 6 ((sI σ 6) + 1)) 6) (sI (stA (uI σ 6 ((sI σ 6) + 1)) 10 (sI (uI σ 6 ((sI σ 6) + 1)) 6) a1) 7)) 12 (sI (uI σ 6 ((sI σ 6) + 1)) 6) 0) 13 (sI (uI σ 6 ((sI σ 6) + 1)) 6) 0) 14 (sI (uI σ 6 ((sI σ 6) + 1)) 6) 0) 2 (sI (uI σ 6 ((sI σ 6) + 1)) 6) 0) 0 a1) = 5
              · have h := it_t c42 h
                refine r_tableIn (t := 261) dX11_part_75 (by rw [c42]; decide) (by rw [c42]; decide) (by rw [c42]; rfl) (by decide) ?_
                refine r_aload_n 1 dX11_part_261 rfl rfl rfl ?_
                refine r_iload_n 0 dX11_part_262 rfl rfl rfl ?_
                refine r_iload_n 2 dX11_part_263 rfl rfl rfl ?_
                obtain ⟨σ44, e43, h⟩ := bd h
                refine r_callV (rest := []) (T_X11_several he hrec e43) (by omega) mf_X11_several rfl tw_1287 tw_75 tw_1285 cM_0 rfl rfl rfl (Nat.le_of_ble_eq_true rfl) dX11_part_264 rfl ?_
                refine r_calln ?_
                refine r_iload_n 0 dX11_part_267 rfl rfl rfl ?_
                exact r_iretQ dX11_part_268 h
              · have h := it_f c42 h
                by_cases c45 : (ldA (stL (stA (stA (stA (stA (stA (uI σ 6 ((sI σ 6) + 1)) 10 (sI (uI σ 6 ((sI σ 6) + 1)) 6) a1) 11 (sI (uI σ 6 ((sI σ 6) + 1)) 6) (sI (stA (uI σ 6 ((sI σ 6) + 1)) 10 (sI (uI σ 6 ((sI σ 6) + 1)) 6) a1) 7)) 12 (sI (uI σ 6 ((sI σ 6) + 1)) 6) 0) 13 (sI (uI σ 6 ((sI σ 6) + 1)) 6) 0) 14 (sI (uI σ 6 ((sI σ 6) + 1)) 6) 0) 2 (sI (uI σ 6 ((sI σ 6) + 1)) 6) 0) 0 a1) = 6
                · have h := it_t c45 h
                  refine r_tableIn (t := 261) dX11_part_75 (by rw [c45]; decide) (by rw [c45]; decide) (by rw [c45]; rfl) (by decide) ?_
                  refine r_aload_n 1 dX11_part_261 rfl rfl rfl ?_
                  refine r_iload_n 0 dX11_part_262 rfl rfl rfl ?_
                  refine r_iload_n 2 dX11_part_263 rfl rfl rfl ?_
                  obtain ⟨σ47, e46, h⟩ := bd h
                  refine r_callV (rest := []) (T_X11_several he hrec e46) (by omega) mf_X11_several rfl tw_1287 tw_75 tw_1285 cM_0 rfl rfl rfl (Nat.le_of_ble_eq_true rfl) dX11_part_264 rfl ?_
                  refine r_calln ?_
                  refine r_iload_n 0 dX11_part_267 rfl rfl rfl ?_
                  exact r_iretQ dX11_part_268 h
                · have h := it_f c45 h
                  by_cases c48 : (ldA (stL (stA (stA (stA (stA (stA (uI σ 6 ((sI σ 6) + 1)) 10 (sI (uI σ 6 ((sI σ 6) + 1)) 6) a1) 11 (sI (uI σ 6 ((sI σ 6) + 1)) 6) (sI (stA (uI σ 6 ((sI σ 6) + 1)) 10 (sI (uI σ 6 ((sI σ 6) + 1)) 6) a1) 7)) 12 (sI (uI σ 6 ((sI σ 6) + 1)) 6) 0) 13 (sI (uI σ 6 ((sI σ 6) + 1)) 6) 0) 14 (sI (uI σ 6 ((sI σ 6) + 1)) 6) 0) 2 (sI (uI σ 6 ((sI σ 6) + 1)) 6) 0) 0 a1) = 7
                  · have h := it_t c48 h
                    refine r_tableIn (t := 222) dX11_part_75 (by rw [c48]; decide) (by rw [c48]; decide) (by rw [c48]; rfl) (by decide) ?_
                    refine r_aload_n 1 dX11_part_222 rfl rfl rfl ?_
                    refine r_bipush (v := 33) dX11_part_223 (by decide) rfl ?_
                    obtain ⟨σ50, e49, h⟩ := bd h
                    refine r_callV (rest := []) (T_X11_need e49) (by omega) mf_X11_need rfl tw_1267 tw_70 tw_1265 cM_0 rfl rfl rfl (Nat.le_of_ble_eq_true rfl) dX11_part_225 rfl ?_
                    refine r_calln ?_
                    refine r_aload_n 1 dX11_part_228 rfl rfl rfl ?_
                    refine r_iload_n 0 dX11_part_229 rfl rfl rfl ?_
                    refine r_aload_n 1 dX11_part_230 rfl rfl rfl ?_
                    refine r_aload_n 1 dX11_part_231 rfl rfl rfl ?_
                    refine gf_X11_13_0 dX11_part_232 rfl ?_
                    refine r_iload_n 2 dX11_part_235 rfl rfl rfl ?_
                    obtain ⟨hi51, h⟩ := gi h
                    refine alM_2 hi51 dX11_part_236 rfl ?_
                    obtain ⟨v53, σ54, e52, h⟩ := b2d h
                    refine r_callV (rest := [.int (sI (uI σ 6 ((sI σ 6) + 1)) 6), .ref (xq X 0)]) (hrec _ _ _ _ e52) (by omega) mf_X11_part rfl tw_1263 tw_69 tw_1261 cM_0 rfl rfl rfl (Nat.le_of_ble_eq_true rfl) dX11_part_237 rfl ?_
                    refine r_call0 ?_
                    refine ric_0 dX11_part_240 rfl ?_
                    obtain ⟨σ56, e55, h⟩ := bd h
                    refine r_callV (rest := []) (T_X11_within e55) (by omega) mf_X11_within rfl tw_1275 tw_72 tw_1273 cM_0 rfl rfl rfl (Nat.le_of_ble_eq_true rfl) dX11_part_241 rfl ?_
                    refine r_calln ?_
                    refine r_goto (t := 267) dX11_part_244 (by decide) ?_
                    refine r_iload_n 0 dX11_part_267 rfl rfl rfl ?_
                    exact r_iretQ dX11_part_268 h
                  · have h := it_f c48 h
                    by_cases c57 : (ldA (stL (stA (stA (stA (stA (stA (uI σ 6 ((sI σ 6) + 1)) 10 (sI (uI σ 6 ((sI σ 6) + 1)) 6) a1) 11 (sI (uI σ 6 ((sI σ 6) + 1)) 6) (sI (stA (uI σ 6 ((sI σ 6) + 1)) 10 (sI (uI σ 6 ((sI σ 6) + 1)) 6) a1) 7)) 12 (sI (uI σ 6 ((sI σ 6) + 1)) 6) 0) 13 (sI (uI σ 6 ((sI σ 6) + 1)) 6) 0) 14 (sI (uI σ 6 ((sI σ 6) + 1)) 6) 0) 2 (sI (uI σ 6 ((sI σ 6) + 1)) 6) 0) 0 a1) = 8
                    · have h := it_t c57 h
                      refine r_tableIn (t := 247) dX11_part_75 (by rw [c57]; decide) (by rw [c57]; decide) (by rw [c57]; rfl) (by decide) ?_
                      refine r_aload_n 1 dX11_part_247 rfl rfl rfl ?_
                      refine r_iload_n 0 dX11_part_248 rfl rfl rfl ?_
                      refine r_aload_n 1 dX11_part_249 rfl rfl rfl ?_
                      refine gf_X11_13_0 dX11_part_250 rfl ?_
                      refine r_iload_n 2 dX11_part_253 rfl rfl rfl ?_
                      obtain ⟨hi58, h⟩ := gi h
                      refine alM_2 hi58 dX11_part_254 rfl ?_
                      obtain ⟨σ60, e59, h⟩ := bd h
                      refine r_callV (rest := []) (T_X11_letters e59) (by omega) mf_X11_letters rfl tw_1283 tw_74 tw_1281 cM_0 rfl rfl rfl (Nat.le_of_ble_eq_true rfl) dX11_part_255 rfl ?_
                      refine r_calln ?_
                      refine r_goto (t := 267) dX11_part_258 (by decide) ?_
                      refine r_iload_n 0 dX11_part_267 rfl rfl rfl ?_
                      exact r_iretQ dX11_part_268 h
                    · have h := it_f c57 h
                      refine r_tableOut (t := 261) dX11_part_75 (by have z0 := neL c9 (z := 0) rfl; have z1 := neL c15 (z := 1) rfl; have z2 := neL c18 (z := 2) rfl; have z3 := neL c36 (z := 3) rfl; have z4 := neL c39 (z := 4) rfl; have z5 := neL c42 (z := 5) rfl; have z6 := neL c45 (z := 6) rfl; have z7 := neL c48 (z := 7) rfl; have z8 := neL c57 (z := 8) rfl; omega) (by decide) ?_
                      refine r_aload_n 1 dX11_part_261 rfl rfl rfl ?_
                      refine r_iload_n 0 dX11_part_262 rfl rfl rfl ?_
                      refine r_iload_n 2 dX11_part_263 rfl rfl rfl ?_
                      obtain ⟨σ62, e61, h⟩ := bd h
                      refine r_callV (rest := []) (T_X11_several he hrec e61) (by omega) mf_X11_several rfl tw_1287 tw_75 tw_1285 cM_0 rfl rfl rfl (Nat.le_of_ble_eq_true rfl) dX11_part_264 rfl ?_
                      refine r_calln ?_
                      refine r_iload_n 0 dX11_part_267 rfl rfl rfl ?_
                      exact r_iretQ dX11_part_268 h
  · have h := it_f c1 h
    refine ric_0 dX11_part_7 rfl ?_
    exact r_iretQ dX11_part_8 h
def P_X11_part : Nat → Int32 → SS → Option (Int32 × SS)
  | 0 => fun _ _ => none
  | n + 1 => B_X11_part (P_X11_part n)
theorem TL_X11_part {X : XE} : ∀ (n : Nat) (a1 : Int32) (σ σf : SS) (r : Int32), P_X11_part n a1 σ = some (r, σf) → Mt (gM X) (3 + 2 * n) yX11_part cX11_part 3 (some .int) [.ref (xq X 0), .int a1] σ (some (.int r)) σf := by
  intro n
  induction n with
  | zero => intro a1 σ σf r h; exact no0 h
  | succ n ih => intro a1 σ σf r h; exact TB_X11_part (e := 3 + 2 * n) (by omega) (fun a r σ σ1 z => ih a σ σ1 r z) h
theorem T_X11_part {X : XE} {σ σf : SS} {a1 : Int32} {r : Int32} (n : Nat) (h : P_X11_part n a1 σ = some (r, σf)) : Mt (gM X) (3 + 2 * n) yX11_part cX11_part 3 (some .int) [.ref (xq X 0), .int a1] σ (some (.int r)) σf := TL_X11_part n a1 σ σf r h
def P_X11_fault (a1 : Int32) (a2 : Int32) (a3 : Int32) (σ : SS) : Option (Int64 × SS) :=
  some (((-100) - a2.toInt64), (uI (uI σ 12 a1) 13 a3))
set_option maxHeartbeats 4000000 in
set_option maxRecDepth 100000 in
theorem T_X11_fault {X : XE} {σf : SS} {r : Int64} {σ : SS} {a1 : Int32} {a2 : Int32} {a3 : Int32} (h : P_X11_fault a1 a2 a3 σ = some (r, σf)) : Mt (gM X) 0 yX11_fault cX11_fault 4 (some .long) [.ref (xq X 0), .int a1, .int a2, .int a3] σ (some (.long r)) σf := by
  refine Mt.of (own := RX11) (lv := [(0, .ref (xq X 0)), (1, .int a1), (2, .int a2), (3, .int a3)]) pn_X11 rfl (Nat.le_of_ble_eq_true rfl) rfl ?_
  unfold P_X11_fault at h
  refine r_aload_n 0 dX11_fault_0 rfl rfl rfl ?_
  refine r_iload_n 1 dX11_fault_1 rfl rfl rfl ?_
  refine pf_X11_315_0 dX11_fault_2 rfl ?_
  refine r_aload_n 0 dX11_fault_5 rfl rfl rfl ?_
  refine r_iload_n 3 dX11_fault_6 rfl rfl rfl ?_
  refine pf_X11_318_0 dX11_fault_7 rfl ?_
  refine r_ldc2 (v := (-100)) tw_1293 dX11_fault_10 rfl ?_
  refine r_iload_n 2 dX11_fault_13 rfl rfl rfl ?_
  refine r_i2l dX11_fault_14 rfl ?_
  refine r_lsub dX11_fault_15 rfl ?_
  exact r_lretQ dX11_fault_16 h
def P_X11_wrongCut_j84 (σ : SS) (K4 : Int32 → Int32 → Option Int32) (x1 : Int32) (x2 : Int32) : Option Int32 :=
  K4 x1 (x2 + 1)
set_option maxHeartbeats 4000000 in
set_option maxRecDepth 100000 in
theorem T_X11_wrongCut_j84 {X : XE} {σ : SS} {r : Int32} {K4 : Int32 → Int32 → Option Int32} (hK4 : ∀ (x1 : Int32) (x2 : Int32), K4 x1 x2 = some r → V (gM X) 1 RX11 cX11_wrongCut 4 (some .int) (some (.int r)) σ 4 [(0, .ref (xq X 0)), (1, .int x1), (2, .int x2)] [] σ) : ∀ (x1 : Int32) (x2 : Int32), P_X11_wrongCut_j84 σ K4 x1 x2 = some r → V (gM X) 1 RX11 cX11_wrongCut 4 (some .int) (some (.int r)) σ 84 [(0, .ref (xq X 0)), (1, .int x1), (2, .int x2)] [] σ := by
  intro x1 x2 h
  unfold P_X11_wrongCut_j84 at h
  refine r_iinc (v := (x2 + 1)) (lv' := [(2, .int (x2 + 1)), (0, .ref (xq X 0)), (1, .int x1)]) 2 dX11_wrongCut_84 rfl rfl (by decide) rfl rfl ?_
  refine r_goto (t := 4) dX11_wrongCut_87 (by decide) ?_
  refine r_sub [1, 2, 0] rfl ?_
  exact hK4 x1 (x2 + 1) h
def P_X11_wrongCut_j77 (σ : SS) (K4 : Int32 → Int32 → Option Int32) (x2 : Int32) : Option Int32 :=
  gI x2 310 <|
  P_X11_wrongCut_j84 σ K4 (ldA σ 11 x2) x2
set_option maxHeartbeats 4000000 in
set_option maxRecDepth 100000 in
theorem T_X11_wrongCut_j77 {X : XE} {σ : SS} {r : Int32} {K4 : Int32 → Int32 → Option Int32} (hK4 : ∀ (x1 : Int32) (x2 : Int32), K4 x1 x2 = some r → V (gM X) 1 RX11 cX11_wrongCut 4 (some .int) (some (.int r)) σ 4 [(0, .ref (xq X 0)), (1, .int x1), (2, .int x2)] [] σ) : ∀ (x2 : Int32), P_X11_wrongCut_j77 σ K4 x2 = some r → V (gM X) 1 RX11 cX11_wrongCut 4 (some .int) (some (.int r)) σ 77 [(0, .ref (xq X 0)), (2, .int x2)] [] σ := by
  intro x2 h
  unfold P_X11_wrongCut_j77 at h
  refine r_aload_n 0 dX11_wrongCut_77 rfl rfl rfl ?_
  refine gf_X11_51_0 dX11_wrongCut_78 rfl ?_
  refine r_iload_n 1 dX11_wrongCut_81 rfl rfl rfl ?_
  obtain ⟨hi1, h⟩ := gi h
  refine alM_14 hi1 dX11_wrongCut_82 rfl ?_
  refine r_istore_n (lv' := [(1, .int (ldA σ 11 x2)), (0, .ref (xq X 0)), (2, .int x2)]) dX11_wrongCut_83 rfl (by decide) rfl rfl ?_
  refine r_sub [1, 0, 2] rfl ?_
  exact T_X11_wrongCut_j84 hK4 (ldA σ 11 x2) x2 h
def P_X11_wrongCut_j4 (σ : SS) : Nat → Int32 → Int32 → Option Int32
  | 0, _, _ => none
  | n + 1, x1, x2 =>
    if (sI σ 6) < x2 then
      some x1
    else
      gI x2 310 <|
      gI (ldA σ 10 x2) 16 <|
      if ¬ (ldA σ 0 (ldA σ 10 x2)) = 7 then
        P_X11_wrongCut_j84 σ (P_X11_wrongCut_j4 σ n) x1 x2
      else
        gI x2 310 <|
        gI (ldA σ 10 x2) 16 <|
        gI (ldA σ 10 x2) 16 <|
        (P_X11_isIn ((ldA σ 12 x2).toInt64) (((ldA σ 2 (ldA σ 10 x2)) / 32).toInt64) (((ldA σ 2 (ldA σ 10 x2)) - (ldA σ 2 (ldA σ 10 x2)) / 32 * 32).toInt64)).bind fun v11 =>
        if ¬ v11 = 0 then
          P_X11_wrongCut_j84 σ (P_X11_wrongCut_j4 σ n) x1 x2
        else
          if x1 < 0 then
            P_X11_wrongCut_j77 σ (P_X11_wrongCut_j4 σ n) x2
          else
            gI x2 310 <|
            if x1 ≤ (ldA σ 11 x2) then
              P_X11_wrongCut_j84 σ (P_X11_wrongCut_j4 σ n) x1 x2
            else
              P_X11_wrongCut_j77 σ (P_X11_wrongCut_j4 σ n) x2
set_option maxHeartbeats 4000000 in
set_option maxRecDepth 100000 in
theorem T_X11_wrongCut_j4 {X : XE} {σ : SS} {r : Int32} : ∀ (fu : Nat) (x1 : Int32) (x2 : Int32), P_X11_wrongCut_j4 σ fu x1 x2 = some r → V (gM X) 1 RX11 cX11_wrongCut 4 (some .int) (some (.int r)) σ 4 [(0, .ref (xq X 0)), (1, .int x1), (2, .int x2)] [] σ := by
  intro fu
  induction fu with
  | zero => intro x1 x2 h; exact no0 h
  | succ n ih =>
    intro x1 x2 h
    unfold P_X11_wrongCut_j4 at h
    refine r_iload_n 2 dX11_wrongCut_4 rfl rfl rfl ?_
    refine r_aload_n 0 dX11_wrongCut_5 rfl rfl rfl ?_
    refine gf_X11_270_0 dX11_wrongCut_6 rfl ?_
    refine r_icmp_gt (t := 90) dX11_wrongCut_9 (by decide) rfl (fun c1 => ?_) (fun c1 => ?_)
    · have h := it_t c1 h
      refine r_iload_n 1 dX11_wrongCut_90 rfl rfl rfl ?_
      exact r_iretR dX11_wrongCut_91 h
    · have h := it_f c1 h
      refine r_aload_n 0 dX11_wrongCut_12 rfl rfl rfl ?_
      refine gf_X11_48_0 dX11_wrongCut_13 rfl ?_
      refine r_iload_n 2 dX11_wrongCut_16 rfl rfl rfl ?_
      obtain ⟨hi2, h⟩ := gi h
      refine alM_13 hi2 dX11_wrongCut_17 rfl ?_
      refine r_istore_n (lv' := [(3, .int (ldA σ 10 x2)), (0, .ref (xq X 0)), (1, .int x1), (2, .int x2)]) dX11_wrongCut_18 rfl (by decide) rfl rfl ?_
      refine r_aload_n 1 dX11_wrongCut_19 rfl rfl rfl ?_
      refine gf_X11_7_0 dX11_wrongCut_20 rfl ?_
      refine r_iload_n 0 dX11_wrongCut_23 rfl rfl rfl ?_
      obtain ⟨hi3, h⟩ := gi h
      refine alM_1 hi3 dX11_wrongCut_24 rfl ?_
      refine r_bipush (v := 7) dX11_wrongCut_25 (by decide) rfl ?_
      refine r_icmp_ne (t := 84) dX11_wrongCut_27 (by decide) rfl (fun c4 => ?_) (fun c4 => ?_)
      · have h := it_t c4 h
        refine r_sub [1, 2, 3] rfl ?_
        exact T_X11_wrongCut_j84 ih x1 x2 h
      · have h := it_n c4 h
        refine r_aload_n 1 dX11_wrongCut_30 rfl rfl rfl ?_
        refine gf_X11_54_0 dX11_wrongCut_31 rfl ?_
        refine r_iload_n 3 dX11_wrongCut_34 rfl rfl rfl ?_
        obtain ⟨hi5, h⟩ := gi h
        refine alM_15 hi5 dX11_wrongCut_35 rfl ?_
        refine r_i2l dX11_wrongCut_36 rfl ?_
        refine r_aload_n 1 dX11_wrongCut_37 rfl rfl rfl ?_
        refine gf_X11_16_0 dX11_wrongCut_38 rfl ?_
        refine r_iload_n 0 dX11_wrongCut_41 rfl rfl rfl ?_
        obtain ⟨hi6, h⟩ := gi h
        refine alM_3 hi6 dX11_wrongCut_42 rfl ?_
        refine r_bipush (v := 32) dX11_wrongCut_43 (by decide) rfl ?_
        refine r_idiv (by decide) dX11_wrongCut_45 rfl ?_
        refine r_i2l dX11_wrongCut_46 rfl ?_
        refine r_aload_n 1 dX11_wrongCut_47 rfl rfl rfl ?_
        refine gf_X11_16_0 dX11_wrongCut_48 rfl ?_
        refine r_iload_n 0 dX11_wrongCut_51 rfl rfl rfl ?_
        obtain ⟨hi8, h⟩ := gi h
        refine alM_3 hi8 dX11_wrongCut_52 rfl ?_
        refine r_bipush (v := 32) dX11_wrongCut_53 (by decide) rfl ?_
        refine r_irem (by decide) dX11_wrongCut_55 rfl ?_
        refine r_i2l dX11_wrongCut_56 rfl ?_
        obtain ⟨v11, e10, h⟩ := bd h
        refine r_callS (As := [.long ((ldA σ 12 x2).toInt64), .long (((ldA σ 2 (ldA σ 10 x2)) / 32).toInt64), .long (((ldA σ 2 (ldA σ 10 x2)) - (ldA σ 2 (ldA σ 10 x2)) / 32 * 32).toInt64)]) (rest := []) (T_X11_isIn e10) (by decide) mf_X11_isIn rfl tw_1055 tw_1054 rfl (Nat.le_of_ble_eq_true rfl) dX11_wrongCut_57 rfl ?_
        refine r_call0 ?_
        refine r_if_ne (t := 84) dX11_wrongCut_60 (by decide) rfl (fun c12 => ?_) (fun c12 => ?_)
        · have h := it_t c12 h
          refine r_sub [1, 2, 3] rfl ?_
          exact T_X11_wrongCut_j84 ih x1 x2 h
        · have h := it_n c12 h
          refine r_iload_n 2 dX11_wrongCut_63 rfl rfl rfl ?_
          refine r_if_lt (t := 77) dX11_wrongCut_64 (by decide) rfl (fun c13 => ?_) (fun c13 => ?_)
          · have h := it_t c13 h
            refine r_sub [1, 3] rfl ?_
            exact T_X11_wrongCut_j77 ih x2 h
          · have h := it_f c13 h
            refine r_aload_n 1 dX11_wrongCut_67 rfl rfl rfl ?_
            refine gf_X11_51_0 dX11_wrongCut_68 rfl ?_
            refine r_iload_n 3 dX11_wrongCut_71 rfl rfl rfl ?_
            obtain ⟨hi14, h⟩ := gi h
            refine alM_14 hi14 dX11_wrongCut_72 rfl ?_
            refine r_iload_n 2 dX11_wrongCut_73 rfl rfl rfl ?_
            refine r_icmp_ge (t := 84) dX11_wrongCut_74 (by decide) rfl (fun c15 => ?_) (fun c15 => ?_)
            · have h := it_t c15 h
              refine r_sub [1, 2, 3] rfl ?_
              exact T_X11_wrongCut_j84 ih x1 x2 h
            · have h := it_f c15 h
              refine r_sub [1, 3] rfl ?_
              exact T_X11_wrongCut_j77 ih x2 h
def P_X11_wrongCut (σ : SS) : Option Int32 :=
  P_X11_wrongCut_j4 σ FU (-1) 1
set_option maxHeartbeats 4000000 in
set_option maxRecDepth 100000 in
theorem T_X11_wrongCut {X : XE} {σ : SS} {r : Int32} (h : P_X11_wrongCut σ = some r) : Mt (gM X) 1 yX11_wrongCut cX11_wrongCut 4 (some .int) [.ref (xq X 0)] σ (some (.int r)) σ := by
  refine Mt.of (own := RX11) (lv := [(0, .ref (xq X 0))]) pn_X11 rfl (Nat.le_of_ble_eq_true rfl) rfl ?_
  unfold P_X11_wrongCut at h
  refine ric_m1 dX11_wrongCut_0 rfl ?_
  refine r_istore_n (lv' := [(1, .int (-1)), (0, .ref (xq X 0))]) dX11_wrongCut_1 rfl (by decide) rfl rfl ?_
  refine ric_1 dX11_wrongCut_2 rfl ?_
  refine r_istore_n (lv' := [(2, .int 1), (1, .int (-1)), (0, .ref (xq X 0))]) dX11_wrongCut_3 rfl (by decide) rfl rfl ?_
  refine r_sub [2, 1, 0] rfl ?_
  exact T_X11_wrongCut_j4 FU (-1) 1 h
def P_X11_isAhead (a1 : Int32) (a2 : Int32) (σ : SS) : Option Int32 :=
  gI a1 310 <|
  gI a2 310 <|
  if (ldA σ 12 a2) < (ldA σ 12 a1) then
    some 1
  else
    gI a1 310 <|
    gI a2 310 <|
    if ¬ (ldA σ 12 a1) = (ldA σ 12 a2) then
      some 0
    else
      gI a1 310 <|
      gI a2 310 <|
      if (ldL σ 3 a1) ≤ (ldL σ 3 a2) then
        some 0
      else
        some 1
set_option maxHeartbeats 4000000 in
set_option maxRecDepth 100000 in
theorem T_X11_isAhead {X : XE} {σ : SS} {r : Int32} {a1 : Int32} {a2 : Int32} (h : P_X11_isAhead a1 a2 σ = some r) : Mt (gM X) 0 yX11_isAhead cX11_isAhead 3 (some .boolean) [.ref (xq X 0), .int a1, .int a2] σ (some (.int r)) σ := by
  refine Mt.of (own := RX11) (lv := [(0, .ref (xq X 0)), (1, .int a1), (2, .int a2)]) pn_X11 rfl (Nat.le_of_ble_eq_true rfl) rfl ?_
  unfold P_X11_isAhead at h
  refine r_aload_n 0 dX11_isAhead_0 rfl rfl rfl ?_
  refine gf_X11_54_0 dX11_isAhead_1 rfl ?_
  refine r_iload_n 1 dX11_isAhead_4 rfl rfl rfl ?_
  obtain ⟨hi1, h⟩ := gi h
  refine alM_15 hi1 dX11_isAhead_5 rfl ?_
  refine r_aload_n 0 dX11_isAhead_6 rfl rfl rfl ?_
  refine gf_X11_54_0 dX11_isAhead_7 rfl ?_
  refine r_iload_n 2 dX11_isAhead_10 rfl rfl rfl ?_
  obtain ⟨hi2, h⟩ := gi h
  refine alM_15 hi2 dX11_isAhead_11 rfl ?_
  refine r_icmp_gt (t := 46) dX11_isAhead_12 (by decide) rfl (fun c3 => ?_) (fun c3 => ?_)
  · have h := it_t c3 h
    refine ric_1 dX11_isAhead_46 rfl ?_
    refine r_goto (t := 51) dX11_isAhead_47 (by decide) ?_
    exact r_zretR (Or.inr rfl) dX11_isAhead_51 h
  · have h := it_f c3 h
    refine r_aload_n 0 dX11_isAhead_15 rfl rfl rfl ?_
    refine gf_X11_54_0 dX11_isAhead_16 rfl ?_
    refine r_iload_n 1 dX11_isAhead_19 rfl rfl rfl ?_
    obtain ⟨hi4, h⟩ := gi h
    refine alM_15 hi4 dX11_isAhead_20 rfl ?_
    refine r_aload_n 0 dX11_isAhead_21 rfl rfl rfl ?_
    refine gf_X11_54_0 dX11_isAhead_22 rfl ?_
    refine r_iload_n 2 dX11_isAhead_25 rfl rfl rfl ?_
    obtain ⟨hi5, h⟩ := gi h
    refine alM_15 hi5 dX11_isAhead_26 rfl ?_
    refine r_icmp_ne (t := 50) dX11_isAhead_27 (by decide) rfl (fun c6 => ?_) (fun c6 => ?_)
    · have h := it_t c6 h
      refine ric_0 dX11_isAhead_50 rfl ?_
      exact r_zretR (Or.inl rfl) dX11_isAhead_51 h
    · have h := it_n c6 h
      refine r_aload_n 0 dX11_isAhead_30 rfl rfl rfl ?_
      refine gf_X11_66_0 dX11_isAhead_31 rfl ?_
      refine r_iload_n 1 dX11_isAhead_34 rfl rfl rfl ?_
      obtain ⟨hi7, h⟩ := gi h
      refine alM_19 hi7 dX11_isAhead_35 rfl ?_
      refine r_aload_n 0 dX11_isAhead_36 rfl rfl rfl ?_
      refine gf_X11_66_0 dX11_isAhead_37 rfl ?_
      refine r_iload_n 2 dX11_isAhead_40 rfl rfl rfl ?_
      obtain ⟨hi8, h⟩ := gi h
      refine alM_19 hi8 dX11_isAhead_41 rfl ?_
      refine r_lif_le (t := 50) dX11_isAhead_42 rfl dX11_isAhead_43 (by decide) rfl (fun c9 => ?_) (fun c9 => ?_)
      · have h := it_t c9 h
        refine ric_0 dX11_isAhead_50 rfl ?_
        exact r_zretR (Or.inl rfl) dX11_isAhead_51 h
      · have h := it_f c9 h
        refine ric_1 dX11_isAhead_46 rfl ?_
        refine r_goto (t := 51) dX11_isAhead_47 (by decide) ?_
        exact r_zretR (Or.inr rfl) dX11_isAhead_51 h
def P_X11_findAlike_j101 (K7 : Int32 → Int32 → SS → Option SS) (K21 : Int32 → Int32 → Int32 → Int32 → SS → Option SS) (x1 : Int32) (x2 : Int32) (x4 : Int32) (y0 : Int32) (σ : SS) : Option SS :=
  gI x4 310 <|
  K21 x1 x2 y0 (ldA σ 14 x4) σ
set_option maxHeartbeats 4000000 in
set_option maxRecDepth 100000 in
theorem T_X11_findAlike_j101 {X : XE} {σf : SS} {K7 : Int32 → Int32 → SS → Option SS} {K21 : Int32 → Int32 → Int32 → Int32 → SS → Option SS} (hK7 : ∀ (x1 : Int32) (x2 : Int32) (σ : SS), K7 x1 x2 σ = some σf → V (gM X) 0 RX11 cX11_findAlike 5 none none σf 7 [(0, .ref (xq X 0)), (1, .int x1), (2, .int x2)] [] σ) (hK21 : ∀ (x1 : Int32) (x2 : Int32) (x3 : Int32) (x4 : Int32) (σ : SS), K21 x1 x2 x3 x4 σ = some σf → V (gM X) 0 RX11 cX11_findAlike 5 none none σf 21 [(0, .ref (xq X 0)), (1, .int x1), (2, .int x2), (3, .int x3), (4, .int x4)] [] σ) : ∀ (x1 : Int32) (x2 : Int32) (x4 : Int32) (y0 : Int32) (σ : SS), P_X11_findAlike_j101 K7 K21 x1 x2 x4 y0 σ = some σf → V (gM X) 0 RX11 cX11_findAlike 5 none none σf 101 [(0, .ref (xq X 0)), (1, .int x1), (2, .int x2), (4, .int x4)] [.int y0] σ := by
  intro x1 x2 x4 y0 σ h
  unfold P_X11_findAlike_j101 at h
  refine r_istore_n (lv' := [(3, .int y0), (0, .ref (xq X 0)), (1, .int x1), (2, .int x2), (4, .int x4)]) dX11_findAlike_101 rfl (by decide) rfl rfl ?_
  refine r_aload_n 1 dX11_findAlike_102 rfl rfl rfl ?_
  refine gf_X11_60_0 dX11_findAlike_103 rfl ?_
  refine r_iload 4 dX11_findAlike_106 rfl rfl ?_
  obtain ⟨hi1, h⟩ := gi h
  refine alM_17 hi1 dX11_findAlike_108 rfl ?_
  refine r_istore (lv' := [(4, .int (ldA σ 14 x4)), (3, .int y0), (0, .ref (xq X 0)), (1, .int x1), (2, .int x2)]) dX11_findAlike_109 (by decide) rfl rfl ?_
  refine r_goto (t := 21) dX11_findAlike_111 (by decide) ?_
  refine r_sub [2, 3, 4, 1, 0] rfl ?_
  exact hK21 x1 x2 y0 (ldA σ 14 x4) σ h
def P_X11_findAlike_j96 (K7 : Int32 → Int32 → SS → Option SS) (K21 : Int32 → Int32 → Int32 → Int32 → SS → Option SS) (x1 : Int32) (x2 : Int32) (x4 : Int32) (σ : SS) : Option SS :=
  P_X11_findAlike_j101 K7 K21 x1 x2 x4 1 σ
set_option maxHeartbeats 4000000 in
set_option maxRecDepth 100000 in
theorem T_X11_findAlike_j96 {X : XE} {σf : SS} {K7 : Int32 → Int32 → SS → Option SS} {K21 : Int32 → Int32 → Int32 → Int32 → SS → Option SS} (hK7 : ∀ (x1 : Int32) (x2 : Int32) (σ : SS), K7 x1 x2 σ = some σf → V (gM X) 0 RX11 cX11_findAlike 5 none none σf 7 [(0, .ref (xq X 0)), (1, .int x1), (2, .int x2)] [] σ) (hK21 : ∀ (x1 : Int32) (x2 : Int32) (x3 : Int32) (x4 : Int32) (σ : SS), K21 x1 x2 x3 x4 σ = some σf → V (gM X) 0 RX11 cX11_findAlike 5 none none σf 21 [(0, .ref (xq X 0)), (1, .int x1), (2, .int x2), (3, .int x3), (4, .int x4)] [] σ) : ∀ (x1 : Int32) (x2 : Int32) (x4 : Int32) (σ : SS), P_X11_findAlike_j96 K7 K21 x1 x2 x4 σ = some σf → V (gM X) 0 RX11 cX11_findAlike 5 none none σf 96 [(0, .ref (xq X 0)), (1, .int x1), (2, .int x2), (4, .int x4)] [] σ := by
  intro x1 x2 x4 σ h
  unfold P_X11_findAlike_j96 at h
  refine ric_1 dX11_findAlike_96 rfl ?_
  refine r_goto (t := 101) dX11_findAlike_97 (by decide) ?_
  exact T_X11_findAlike_j101 hK7 hK21 x1 x2 x4 1 σ h
def P_X11_findAlike_j100 (K7 : Int32 → Int32 → SS → Option SS) (K21 : Int32 → Int32 → Int32 → Int32 → SS → Option SS) (x1 : Int32) (x2 : Int32) (x4 : Int32) (σ : SS) : Option SS :=
  P_X11_findAlike_j101 K7 K21 x1 x2 x4 0 σ
set_option maxHeartbeats 4000000 in
set_option maxRecDepth 100000 in
theorem T_X11_findAlike_j100 {X : XE} {σf : SS} {K7 : Int32 → Int32 → SS → Option SS} {K21 : Int32 → Int32 → Int32 → Int32 → SS → Option SS} (hK7 : ∀ (x1 : Int32) (x2 : Int32) (σ : SS), K7 x1 x2 σ = some σf → V (gM X) 0 RX11 cX11_findAlike 5 none none σf 7 [(0, .ref (xq X 0)), (1, .int x1), (2, .int x2)] [] σ) (hK21 : ∀ (x1 : Int32) (x2 : Int32) (x3 : Int32) (x4 : Int32) (σ : SS), K21 x1 x2 x3 x4 σ = some σf → V (gM X) 0 RX11 cX11_findAlike 5 none none σf 21 [(0, .ref (xq X 0)), (1, .int x1), (2, .int x2), (3, .int x3), (4, .int x4)] [] σ) : ∀ (x1 : Int32) (x2 : Int32) (x4 : Int32) (σ : SS), P_X11_findAlike_j100 K7 K21 x1 x2 x4 σ = some σf → V (gM X) 0 RX11 cX11_findAlike 5 none none σf 100 [(0, .ref (xq X 0)), (1, .int x1), (2, .int x2), (4, .int x4)] [] σ := by
  intro x1 x2 x4 σ h
  unfold P_X11_findAlike_j100 at h
  refine ric_0 dX11_findAlike_100 rfl ?_
  exact T_X11_findAlike_j101 hK7 hK21 x1 x2 x4 0 σ h
def P_X11_findAlike_j162 (K7 : Int32 → Int32 → SS → Option SS) (x1 : Int32) (x2 : Int32) (σ : SS) : Option SS :=
  gI x2 310 <|
  K7 x1 (ldA σ 14 x2) σ
set_option maxHeartbeats 4000000 in
set_option maxRecDepth 100000 in
theorem T_X11_findAlike_j162 {X : XE} {σf : SS} {K7 : Int32 → Int32 → SS → Option SS} (hK7 : ∀ (x1 : Int32) (x2 : Int32) (σ : SS), K7 x1 x2 σ = some σf → V (gM X) 0 RX11 cX11_findAlike 5 none none σf 7 [(0, .ref (xq X 0)), (1, .int x1), (2, .int x2)] [] σ) : ∀ (x1 : Int32) (x2 : Int32) (σ : SS), P_X11_findAlike_j162 K7 x1 x2 σ = some σf → V (gM X) 0 RX11 cX11_findAlike 5 none none σf 162 [(0, .ref (xq X 0)), (1, .int x1), (2, .int x2)] [] σ := by
  intro x1 x2 σ h
  unfold P_X11_findAlike_j162 at h
  refine r_aload_n 0 dX11_findAlike_162 rfl rfl rfl ?_
  refine gf_X11_60_0 dX11_findAlike_163 rfl ?_
  refine r_iload_n 2 dX11_findAlike_166 rfl rfl rfl ?_
  obtain ⟨hi1, h⟩ := gi h
  refine alM_17 hi1 dX11_findAlike_167 rfl ?_
  refine r_istore_n (lv' := [(2, .int (ldA σ 14 x2)), (0, .ref (xq X 0)), (1, .int x1)]) dX11_findAlike_168 rfl (by decide) rfl rfl ?_
  refine r_goto (t := 7) dX11_findAlike_169 (by decide) ?_
  refine r_sub [1, 2, 0] rfl ?_
  exact hK7 x1 (ldA σ 14 x2) σ h
def P_X11_findAlike_j159 (K7 : Int32 → Int32 → SS → Option SS) (x1 : Int32) (x2 : Int32) (y0 : Int32) (σ : SS) : Option SS :=
  P_X11_findAlike_j162 K7 x1 x2 (uI σ 9 y0)
set_option maxHeartbeats 4000000 in
set_option maxRecDepth 100000 in
theorem T_X11_findAlike_j159 {X : XE} {σf : SS} {K7 : Int32 → Int32 → SS → Option SS} (hK7 : ∀ (x1 : Int32) (x2 : Int32) (σ : SS), K7 x1 x2 σ = some σf → V (gM X) 0 RX11 cX11_findAlike 5 none none σf 7 [(0, .ref (xq X 0)), (1, .int x1), (2, .int x2)] [] σ) : ∀ (x1 : Int32) (x2 : Int32) (y0 : Int32) (σ : SS), P_X11_findAlike_j159 K7 x1 x2 y0 σ = some σf → V (gM X) 0 RX11 cX11_findAlike 5 none none σf 159 [(0, .ref (xq X 0)), (1, .int x1), (2, .int x2)] [.int y0, .ref (xq X 0)] σ := by
  intro x1 x2 y0 σ h
  unfold P_X11_findAlike_j159 at h
  refine pf_X11_312_0 dX11_findAlike_159 rfl ?_
  exact T_X11_findAlike_j162 hK7 x1 x2 (uI σ 9 y0) h
def P_X11_findAlike_j146 (K7 : Int32 → Int32 → SS → Option SS) (x1 : Int32) (x2 : Int32) (σ : SS) : Option SS :=
  gI x2 310 <|
  P_X11_findAlike_j159 K7 x1 x2 (ldA σ 11 x2) σ
set_option maxHeartbeats 4000000 in
set_option maxRecDepth 100000 in
theorem T_X11_findAlike_j146 {X : XE} {σf : SS} {K7 : Int32 → Int32 → SS → Option SS} (hK7 : ∀ (x1 : Int32) (x2 : Int32) (σ : SS), K7 x1 x2 σ = some σf → V (gM X) 0 RX11 cX11_findAlike 5 none none σf 7 [(0, .ref (xq X 0)), (1, .int x1), (2, .int x2)] [] σ) : ∀ (x1 : Int32) (x2 : Int32) (σ : SS), P_X11_findAlike_j146 K7 x1 x2 σ = some σf → V (gM X) 0 RX11 cX11_findAlike 5 none none σf 146 [(0, .ref (xq X 0)), (1, .int x1), (2, .int x2)] [.ref (xq X 0)] σ := by
  intro x1 x2 σ h
  unfold P_X11_findAlike_j146 at h
  refine r_aload_n 0 dX11_findAlike_146 rfl rfl rfl ?_
  refine gf_X11_51_0 dX11_findAlike_147 rfl ?_
  refine r_iload_n 2 dX11_findAlike_150 rfl rfl rfl ?_
  obtain ⟨hi1, h⟩ := gi h
  refine alM_14 hi1 dX11_findAlike_151 rfl ?_
  refine r_goto (t := 159) dX11_findAlike_152 (by decide) ?_
  exact T_X11_findAlike_j159 hK7 x1 x2 (ldA σ 11 x2) σ h
def P_X11_findAlike_j21 (K7 : Int32 → Int32 → SS → Option SS) : Nat → Int32 → Int32 → Int32 → Int32 → SS → Option SS
  | 0, _, _, _, _, _ => none
  | n + 1, x1, x2, x3, x4, σ =>
    if x4 = x2 then
      if x3 = 0 then
        P_X11_findAlike_j162 K7 x1 x2 σ
      else
        gI x1 310 <|
        if (sI (stZ σ 15 x1 1) 9) < 0 then
          P_X11_findAlike_j146 K7 x1 x2 (stZ σ 15 x1 1)
        else
          gI x2 310 <|
          if (sI (stZ σ 15 x1 1) 9) ≤ (ldA (stZ σ 15 x1 1) 11 x2) then
            P_X11_findAlike_j159 K7 x1 x2 (sI (stZ σ 15 x1 1) 9) (stZ σ 15 x1 1)
          else
            P_X11_findAlike_j146 K7 x1 x2 (stZ σ 15 x1 1)
    else
      if ¬ x3 = 0 then
        P_X11_findAlike_j96 K7 (P_X11_findAlike_j21 K7 n) x1 x2 x4 σ
      else
        gI x2 310 <|
        if ¬ (ldA σ 15 x2) = 0 then
          P_X11_findAlike_j100 K7 (P_X11_findAlike_j21 K7 n) x1 x2 x4 σ
        else
          gI x4 310 <|
          if ¬ (ldA σ 15 x4) = 0 then
            P_X11_findAlike_j100 K7 (P_X11_findAlike_j21 K7 n) x1 x2 x4 σ
          else
            gI x2 310 <|
            if 10000000000000000 ≤ (ldL σ 3 x2) then
              P_X11_findAlike_j100 K7 (P_X11_findAlike_j21 K7 n) x1 x2 x4 σ
            else
              gI x2 310 <|
              gI x4 310 <|
              if ¬ (ldA σ 12 x2) = (ldA σ 12 x4) then
                P_X11_findAlike_j100 K7 (P_X11_findAlike_j21 K7 n) x1 x2 x4 σ
              else
                gI x2 310 <|
                gI x4 310 <|
                if ¬ (ldL σ 3 x2) = (ldL σ 3 x4) then
                  P_X11_findAlike_j100 K7 (P_X11_findAlike_j21 K7 n) x1 x2 x4 σ
                else
                  P_X11_findAlike_j96 K7 (P_X11_findAlike_j21 K7 n) x1 x2 x4 σ
set_option maxHeartbeats 4000000 in
set_option maxRecDepth 100000 in
theorem T_X11_findAlike_j21 {X : XE} {σf : SS} {K7 : Int32 → Int32 → SS → Option SS} (hK7 : ∀ (x1 : Int32) (x2 : Int32) (σ : SS), K7 x1 x2 σ = some σf → V (gM X) 0 RX11 cX11_findAlike 5 none none σf 7 [(0, .ref (xq X 0)), (1, .int x1), (2, .int x2)] [] σ) : ∀ (fu : Nat) (x1 : Int32) (x2 : Int32) (x3 : Int32) (x4 : Int32) (σ : SS), P_X11_findAlike_j21 K7 fu x1 x2 x3 x4 σ = some σf → V (gM X) 0 RX11 cX11_findAlike 5 none none σf 21 [(0, .ref (xq X 0)), (1, .int x1), (2, .int x2), (3, .int x3), (4, .int x4)] [] σ := by
  intro fu
  induction fu with
  | zero => intro x1 x2 x3 x4 σ h; exact no0 h
  | succ n ih =>
    intro x1 x2 x3 x4 σ h
    unfold P_X11_findAlike_j21 at h
    refine r_iload 4 dX11_findAlike_21 rfl rfl ?_
    refine r_iload_n 2 dX11_findAlike_23 rfl rfl rfl ?_
    refine r_icmp_eq (t := 114) dX11_findAlike_24 (by decide) rfl (fun c1 => ?_) (fun c1 => ?_)
    · have h := it_t c1 h
      refine r_iload_n 3 dX11_findAlike_114 rfl rfl rfl ?_
      refine r_if_eq (t := 162) dX11_findAlike_115 (by decide) rfl (fun c2 => ?_) (fun c2 => ?_)
      · have h := it_t c2 h
        refine r_sub [0, 1, 2] rfl ?_
        exact T_X11_findAlike_j162 hK7 x1 x2 σ h
      · have h := it_f c2 h
        refine r_aload_n 0 dX11_findAlike_118 rfl rfl rfl ?_
        refine gf_X11_69_0 dX11_findAlike_119 rfl ?_
        refine r_iload_n 1 dX11_findAlike_122 rfl rfl rfl ?_
        refine ric_1 dX11_findAlike_123 rfl ?_
        obtain ⟨hi3, h⟩ := gi h
        refine asM_20 hi3 dX11_findAlike_124 rfl ?_
        refine r_aload_n 0 dX11_findAlike_125 rfl rfl rfl ?_
        refine r_aload_n 0 dX11_findAlike_126 rfl rfl rfl ?_
        refine gf_X11_312_0 dX11_findAlike_127 rfl ?_
        refine r_if_lt (t := 146) dX11_findAlike_130 (by decide) rfl (fun c4 => ?_) (fun c4 => ?_)
        · have h := it_t c4 h
          refine r_sub [0, 1, 2] rfl ?_
          exact T_X11_findAlike_j146 hK7 x1 x2 (stZ σ 15 x1 1) h
        · have h := it_f c4 h
          refine r_aload_n 0 dX11_findAlike_133 rfl rfl rfl ?_
          refine gf_X11_51_0 dX11_findAlike_134 rfl ?_
          refine r_iload_n 2 dX11_findAlike_137 rfl rfl rfl ?_
          obtain ⟨hi5, h⟩ := gi h
          refine alM_14 hi5 dX11_findAlike_138 rfl ?_
          refine r_aload_n 0 dX11_findAlike_139 rfl rfl rfl ?_
          refine gf_X11_312_0 dX11_findAlike_140 rfl ?_
          refine r_icmp_ge (t := 155) dX11_findAlike_143 (by decide) rfl (fun c6 => ?_) (fun c6 => ?_)
          · have h := it_t c6 h
            refine r_aload_n 0 dX11_findAlike_155 rfl rfl rfl ?_
            refine gf_X11_312_0 dX11_findAlike_156 rfl ?_
            refine r_sub [0, 1, 2] rfl ?_
            exact T_X11_findAlike_j159 hK7 x1 x2 (sI (stZ σ 15 x1 1) 9) (stZ σ 15 x1 1) h
          · have h := it_f c6 h
            refine r_sub [0, 1, 2] rfl ?_
            exact T_X11_findAlike_j146 hK7 x1 x2 (stZ σ 15 x1 1) h
    · have h := it_f c1 h
      refine r_iload_n 3 dX11_findAlike_27 rfl rfl rfl ?_
      refine r_if_ne (t := 96) dX11_findAlike_28 (by decide) rfl (fun c7 => ?_) (fun c7 => ?_)
      · have h := it_t c7 h
        refine r_sub [0, 1, 2, 4] rfl ?_
        exact T_X11_findAlike_j96 hK7 ih x1 x2 x4 σ h
      · have h := it_n c7 h
        refine r_aload_n 0 dX11_findAlike_31 rfl rfl rfl ?_
        refine gf_X11_69_0 dX11_findAlike_32 rfl ?_
        refine r_iload_n 2 dX11_findAlike_35 rfl rfl rfl ?_
        obtain ⟨hi8, h⟩ := gi h
        refine alM_20 hi8 dX11_findAlike_36 rfl ?_
        refine r_if_ne (t := 100) dX11_findAlike_37 (by decide) rfl (fun c9 => ?_) (fun c9 => ?_)
        · have h := it_t c9 h
          refine r_sub [0, 1, 2, 4] rfl ?_
          exact T_X11_findAlike_j100 hK7 ih x1 x2 x4 σ h
        · have h := it_n c9 h
          refine r_aload_n 0 dX11_findAlike_40 rfl rfl rfl ?_
          refine gf_X11_69_0 dX11_findAlike_41 rfl ?_
          refine r_iload 4 dX11_findAlike_44 rfl rfl ?_
          obtain ⟨hi10, h⟩ := gi h
          refine alM_20 hi10 dX11_findAlike_46 rfl ?_
          refine r_if_ne (t := 100) dX11_findAlike_47 (by decide) rfl (fun c11 => ?_) (fun c11 => ?_)
          · have h := it_t c11 h
            refine r_sub [0, 1, 2, 4] rfl ?_
            exact T_X11_findAlike_j100 hK7 ih x1 x2 x4 σ h
          · have h := it_n c11 h
            refine r_aload_n 0 dX11_findAlike_50 rfl rfl rfl ?_
            refine gf_X11_66_0 dX11_findAlike_51 rfl ?_
            refine r_iload_n 2 dX11_findAlike_54 rfl rfl rfl ?_
            obtain ⟨hi12, h⟩ := gi h
            refine alM_19 hi12 dX11_findAlike_55 rfl ?_
            refine r_ldc2 (v := 10000000000000000) tw_1151 dX11_findAlike_56 rfl ?_
            refine r_lif_ge (t := 100) dX11_findAlike_59 rfl dX11_findAlike_60 (by decide) rfl (fun c13 => ?_) (fun c13 => ?_)
            · have h := it_t c13 h
              refine r_sub [0, 1, 2, 4] rfl ?_
              exact T_X11_findAlike_j100 hK7 ih x1 x2 x4 σ h
            · have h := it_f c13 h
              refine r_aload_n 0 dX11_findAlike_63 rfl rfl rfl ?_
              refine gf_X11_54_0 dX11_findAlike_64 rfl ?_
              refine r_iload_n 2 dX11_findAlike_67 rfl rfl rfl ?_
              obtain ⟨hi14, h⟩ := gi h
              refine alM_15 hi14 dX11_findAlike_68 rfl ?_
              refine r_aload_n 0 dX11_findAlike_69 rfl rfl rfl ?_
              refine gf_X11_54_0 dX11_findAlike_70 rfl ?_
              refine r_iload 4 dX11_findAlike_73 rfl rfl ?_
              obtain ⟨hi15, h⟩ := gi h
              refine alM_15 hi15 dX11_findAlike_75 rfl ?_
              refine r_icmp_ne (t := 100) dX11_findAlike_76 (by decide) rfl (fun c16 => ?_) (fun c16 => ?_)
              · have h := it_t c16 h
                refine r_sub [0, 1, 2, 4] rfl ?_
                exact T_X11_findAlike_j100 hK7 ih x1 x2 x4 σ h
              · have h := it_n c16 h
                refine r_aload_n 0 dX11_findAlike_79 rfl rfl rfl ?_
                refine gf_X11_66_0 dX11_findAlike_80 rfl ?_
                refine r_iload_n 2 dX11_findAlike_83 rfl rfl rfl ?_
                obtain ⟨hi17, h⟩ := gi h
                refine alM_19 hi17 dX11_findAlike_84 rfl ?_
                refine r_aload_n 0 dX11_findAlike_85 rfl rfl rfl ?_
                refine gf_X11_66_0 dX11_findAlike_86 rfl ?_
                refine r_iload 4 dX11_findAlike_89 rfl rfl ?_
                obtain ⟨hi18, h⟩ := gi h
                refine alM_19 hi18 dX11_findAlike_91 rfl ?_
                refine r_lif_ne (t := 100) dX11_findAlike_92 rfl dX11_findAlike_93 (by decide) rfl (fun c19 => ?_) (fun c19 => ?_)
                · have h := it_t c19 h
                  refine r_sub [0, 1, 2, 4] rfl ?_
                  exact T_X11_findAlike_j100 hK7 ih x1 x2 x4 σ h
                · have h := it_n c19 h
                  refine r_sub [0, 1, 2, 4] rfl ?_
                  exact T_X11_findAlike_j96 hK7 ih x1 x2 x4 σ h
def P_X11_findAlike_j7 : Nat → Int32 → Int32 → SS → Option SS
  | 0, _, _, _ => none
  | n + 1, x1, x2, σ =>
    if x2 = 0 then
      some σ
    else
      gI x1 310 <|
      P_X11_findAlike_j21 (P_X11_findAlike_j7 n) FU x1 x2 0 (ldA σ 13 x1) σ
set_option maxHeartbeats 4000000 in
set_option maxRecDepth 100000 in
theorem T_X11_findAlike_j7 {X : XE} {σf : SS} : ∀ (fu : Nat) (x1 : Int32) (x2 : Int32) (σ : SS), P_X11_findAlike_j7 fu x1 x2 σ = some σf → V (gM X) 0 RX11 cX11_findAlike 5 none none σf 7 [(0, .ref (xq X 0)), (1, .int x1), (2, .int x2)] [] σ := by
  intro fu
  induction fu with
  | zero => intro x1 x2 σ h; exact no0 h
  | succ n ih =>
    intro x1 x2 σ h
    unfold P_X11_findAlike_j7 at h
    refine r_iload_n 2 dX11_findAlike_7 rfl rfl rfl ?_
    refine r_if_eq (t := 172) dX11_findAlike_8 (by decide) rfl (fun c1 => ?_) (fun c1 => ?_)
    · have h := it_t c1 h
      exact r_vretS dX11_findAlike_172 h
    · have h := it_f c1 h
      refine ric_0 dX11_findAlike_11 rfl ?_
      refine r_istore_n (lv' := [(3, .int 0), (0, .ref (xq X 0)), (1, .int x1), (2, .int x2)]) dX11_findAlike_12 rfl (by decide) rfl rfl ?_
      refine r_aload_n 1 dX11_findAlike_13 rfl rfl rfl ?_
      refine gf_X11_57_0 dX11_findAlike_14 rfl ?_
      refine r_iload_n 2 dX11_findAlike_17 rfl rfl rfl ?_
      obtain ⟨hi2, h⟩ := gi h
      refine alM_16 hi2 dX11_findAlike_18 rfl ?_
      refine r_istore (lv' := [(4, .int (ldA σ 13 x1)), (3, .int 0), (0, .ref (xq X 0)), (1, .int x1), (2, .int x2)]) dX11_findAlike_19 (by decide) rfl rfl ?_
      refine r_sub [2, 3, 4, 1, 0] rfl ?_
      exact T_X11_findAlike_j21 ih FU x1 x2 0 (ldA σ 13 x1) σ h
def P_X11_findAlike (a1 : Int32) (σ : SS) : Option SS :=
  gI a1 310 <|
  P_X11_findAlike_j7 FU a1 (ldA σ 13 a1) σ
set_option maxHeartbeats 4000000 in
set_option maxRecDepth 100000 in
theorem T_X11_findAlike {X : XE} {σf : SS} {σ : SS} {a1 : Int32} (h : P_X11_findAlike a1 σ = some σf) : Mt (gM X) 0 yX11_findAlike cX11_findAlike 5 none [.ref (xq X 0), .int a1] σ none σf := by
  refine Mt.of (own := RX11) (lv := [(0, .ref (xq X 0)), (1, .int a1)]) pn_X11 rfl (Nat.le_of_ble_eq_true rfl) rfl ?_
  unfold P_X11_findAlike at h
  refine r_aload_n 0 dX11_findAlike_0 rfl rfl rfl ?_
  refine gf_X11_57_0 dX11_findAlike_1 rfl ?_
  refine r_iload_n 1 dX11_findAlike_4 rfl rfl rfl ?_
  obtain ⟨hi1, h⟩ := gi h
  refine alM_16 hi1 dX11_findAlike_5 rfl ?_
  refine r_istore_n (lv' := [(2, .int (ldA σ 13 a1)), (0, .ref (xq X 0)), (1, .int a1)]) dX11_findAlike_6 rfl (by decide) rfl rfl ?_
  refine r_sub [1, 2, 0] rfl ?_
  exact T_X11_findAlike_j7 FU a1 (ldA σ 13 a1) σ h
def P_X11_numberOfSet_j103 (K10 : Int32 → Int32 → Int32 → Int32 → SS → Option SS) (x1 : Int32) (x2 : Int32) (x3 : Int32) (x4 : Int32) (x5 : Int32) (σ : SS) : Option SS :=
  gI x5 310 <|
  gI x4 310 <|
  K10 x1 x2 (x3 + 1) (ldA (stA σ 16 x5 x4) 14 x4) (stA σ 16 x5 x4)
set_option maxHeartbeats 4000000 in
set_option maxRecDepth 100000 in
theorem T_X11_numberOfSet_j103 {X : XE} {σf : SS} {K10 : Int32 → Int32 → Int32 → Int32 → SS → Option SS} (hK10 : ∀ (x1 : Int32) (x2 : Int32) (x3 : Int32) (x4 : Int32) (σ : SS), K10 x1 x2 x3 x4 σ = some σf → V (gM X) 3 RX11 cX11_numberOfSet 9 none none σf 10 [(0, .ref (xq X 0)), (1, .int x1), (2, .int x2), (3, .int x3), (4, .int x4)] [] σ) : ∀ (x1 : Int32) (x2 : Int32) (x3 : Int32) (x4 : Int32) (x5 : Int32) (σ : SS), P_X11_numberOfSet_j103 K10 x1 x2 x3 x4 x5 σ = some σf → V (gM X) 3 RX11 cX11_numberOfSet 9 none none σf 103 [(0, .ref (xq X 0)), (1, .int x1), (2, .int x2), (3, .int x3), (4, .int x4), (5, .int x5)] [] σ := by
  intro x1 x2 x3 x4 x5 σ h
  unfold P_X11_numberOfSet_j103 at h
  refine r_aload_n 0 dX11_numberOfSet_103 rfl rfl rfl ?_
  refine gf_X11_72_0 dX11_numberOfSet_104 rfl ?_
  refine r_iload 5 dX11_numberOfSet_107 rfl rfl ?_
  refine r_iload 4 dX11_numberOfSet_109 rfl rfl ?_
  obtain ⟨hi1, h⟩ := gi h
  refine asM_21 hi1 dX11_numberOfSet_111 rfl ?_
  refine r_iinc (v := (x3 + 1)) (lv' := [(3, .int (x3 + 1)), (0, .ref (xq X 0)), (1, .int x1), (2, .int x2), (4, .int x4), (5, .int x5)]) 3 dX11_numberOfSet_112 rfl rfl (by decide) rfl rfl ?_
  refine r_aload_n 1 dX11_numberOfSet_115 rfl rfl rfl ?_
  refine gf_X11_60_0 dX11_numberOfSet_116 rfl ?_
  refine r_iload 4 dX11_numberOfSet_119 rfl rfl ?_
  obtain ⟨hi2, h⟩ := gi h
  refine alM_17 hi2 dX11_numberOfSet_121 rfl ?_
  refine r_istore (lv' := [(4, .int (ldA (stA σ 16 x5 x4) 14 x4)), (3, .int (x3 + 1)), (0, .ref (xq X 0)), (1, .int x1), (2, .int x2), (5, .int x5)]) dX11_numberOfSet_122 (by decide) rfl rfl ?_
  refine r_goto (t := 10) dX11_numberOfSet_124 (by decide) ?_
  refine r_sub [2, 3, 4, 1, 0] rfl ?_
  exact hK10 x1 x2 (x3 + 1) (ldA (stA σ 16 x5 x4) 14 x4) (stA σ 16 x5 x4) h
def P_X11_numberOfSet_j58 (K10 : Int32 → Int32 → Int32 → Int32 → SS → Option SS) : Nat → Int32 → Int32 → Int32 → Int32 → Int32 → SS → Option SS
  | 0, _, _, _, _, _, _ => none
  | n + 1, x1, x2, x3, x4, x5, σ =>
    if x5 ≤ 0 then
      P_X11_numberOfSet_j103 K10 x1 x2 x3 x4 x5 σ
    else
      gI (x5 - 1) 310 <|
      (P_X11_isAhead x4 (ldA σ 16 (x5 - 1)) σ).bind fun v4 =>
      if v4 = 0 then
        P_X11_numberOfSet_j103 K10 x1 x2 x3 x4 x5 σ
      else
        gI (x5 - 1) 310 <|
        gI x5 310 <|
        (P_X11_numberOfSet_j58 K10 n) x1 x2 x3 x4 (x5 + (-1)) (stA σ 16 x5 (ldA σ 16 (x5 - 1)))
set_option maxHeartbeats 4000000 in
set_option maxRecDepth 100000 in
theorem T_X11_numberOfSet_j58 {X : XE} {σf : SS} {K10 : Int32 → Int32 → Int32 → Int32 → SS → Option SS} (hK10 : ∀ (x1 : Int32) (x2 : Int32) (x3 : Int32) (x4 : Int32) (σ : SS), K10 x1 x2 x3 x4 σ = some σf → V (gM X) 3 RX11 cX11_numberOfSet 9 none none σf 10 [(0, .ref (xq X 0)), (1, .int x1), (2, .int x2), (3, .int x3), (4, .int x4)] [] σ) : ∀ (fu : Nat) (x1 : Int32) (x2 : Int32) (x3 : Int32) (x4 : Int32) (x5 : Int32) (σ : SS), P_X11_numberOfSet_j58 K10 fu x1 x2 x3 x4 x5 σ = some σf → V (gM X) 3 RX11 cX11_numberOfSet 9 none none σf 58 [(0, .ref (xq X 0)), (1, .int x1), (2, .int x2), (3, .int x3), (4, .int x4), (5, .int x5)] [] σ := by
  intro fu
  induction fu with
  | zero => intro x1 x2 x3 x4 x5 σ h; exact no0 h
  | succ n ih =>
    intro x1 x2 x3 x4 x5 σ h
    unfold P_X11_numberOfSet_j58 at h
    refine r_iload 5 dX11_numberOfSet_58 rfl rfl ?_
    refine r_if_le (t := 103) dX11_numberOfSet_60 (by decide) rfl (fun c1 => ?_) (fun c1 => ?_)
    · have h := it_t c1 h
      exact T_X11_numberOfSet_j103 hK10 x1 x2 x3 x4 x5 σ h
    · have h := it_f c1 h
      refine r_aload_n 0 dX11_numberOfSet_63 rfl rfl rfl ?_
      refine r_iload 4 dX11_numberOfSet_64 rfl rfl ?_
      refine r_aload_n 0 dX11_numberOfSet_66 rfl rfl rfl ?_
      refine gf_X11_72_0 dX11_numberOfSet_67 rfl ?_
      refine r_iload 5 dX11_numberOfSet_70 rfl rfl ?_
      refine ric_1 dX11_numberOfSet_72 rfl ?_
      refine r_isub dX11_numberOfSet_73 rfl ?_
      obtain ⟨hi2, h⟩ := gi h
      refine alM_21 hi2 dX11_numberOfSet_74 rfl ?_
      obtain ⟨v4, e3, h⟩ := bd h
      refine r_callV (rest := []) (T_X11_isAhead e3) (by decide) mf_X11_isAhead rfl tw_1316 tw_82 tw_1314 cM_0 rfl rfl rfl (Nat.le_of_ble_eq_true rfl) dX11_numberOfSet_75 rfl ?_
      refine r_call0 ?_
      refine r_if_eq (t := 103) dX11_numberOfSet_78 (by decide) rfl (fun c5 => ?_) (fun c5 => ?_)
      · have h := it_t c5 h
        exact T_X11_numberOfSet_j103 hK10 x1 x2 x3 x4 x5 σ h
      · have h := it_f c5 h
        refine r_aload_n 0 dX11_numberOfSet_81 rfl rfl rfl ?_
        refine gf_X11_72_0 dX11_numberOfSet_82 rfl ?_
        refine r_iload 5 dX11_numberOfSet_85 rfl rfl ?_
        refine r_aload_n 0 dX11_numberOfSet_87 rfl rfl rfl ?_
        refine gf_X11_72_0 dX11_numberOfSet_88 rfl ?_
        refine r_iload 5 dX11_numberOfSet_91 rfl rfl ?_
        refine ric_1 dX11_numberOfSet_93 rfl ?_
        refine r_isub dX11_numberOfSet_94 rfl ?_
        obtain ⟨hi6, h⟩ := gi h
        refine alM_21 hi6 dX11_numberOfSet_95 rfl ?_
        obtain ⟨hi7, h⟩ := gi h
        refine asM_21 hi7 dX11_numberOfSet_96 rfl ?_
        refine r_iinc (v := (x5 + (-1))) (lv' := [(5, .int (x5 + (-1))), (0, .ref (xq X 0)), (1, .int x1), (2, .int x2), (3, .int x3), (4, .int x4)]) 5 dX11_numberOfSet_97 rfl rfl (by decide) rfl rfl ?_
        refine r_goto (t := 58) dX11_numberOfSet_100 (by decide) ?_
        refine r_sub [1, 2, 3, 4, 5, 0] rfl ?_
        exact ih x1 x2 x3 x4 (x5 + (-1)) (stA σ 16 x5 (ldA σ 16 (x5 - 1))) h
def P_X11_numberOfSet_j52 (K10 : Int32 → Int32 → Int32 → Int32 → SS → Option SS) (x1 : Int32) (x2 : Int32) (x3 : Int32) (x4 : Int32) (y0 : Int32) (σ : SS) : Option SS :=
  gZ y0 <|
  P_X11_numberOfSet_j58 K10 FU x1 x2 x3 x4 x3 (uI σ 10 y0)
set_option maxHeartbeats 4000000 in
set_option maxRecDepth 100000 in
theorem T_X11_numberOfSet_j52 {X : XE} {σf : SS} {K10 : Int32 → Int32 → Int32 → Int32 → SS → Option SS} (hK10 : ∀ (x1 : Int32) (x2 : Int32) (x3 : Int32) (x4 : Int32) (σ : SS), K10 x1 x2 x3 x4 σ = some σf → V (gM X) 3 RX11 cX11_numberOfSet 9 none none σf 10 [(0, .ref (xq X 0)), (1, .int x1), (2, .int x2), (3, .int x3), (4, .int x4)] [] σ) : ∀ (x1 : Int32) (x2 : Int32) (x3 : Int32) (x4 : Int32) (y0 : Int32) (σ : SS), P_X11_numberOfSet_j52 K10 x1 x2 x3 x4 y0 σ = some σf → V (gM X) 3 RX11 cX11_numberOfSet 9 none none σf 52 [(0, .ref (xq X 0)), (1, .int x1), (2, .int x2), (3, .int x3), (4, .int x4)] [.int y0, .ref (xq X 0)] σ := by
  intro x1 x2 x3 x4 y0 σ h
  unfold P_X11_numberOfSet_j52 at h
  obtain ⟨hz1, h⟩ := gz h
  refine pf_X11_302_0 hz1 dX11_numberOfSet_52 rfl ?_
  refine r_iload_n 3 dX11_numberOfSet_55 rfl rfl rfl ?_
  refine r_istore (lv' := [(5, .int x3), (0, .ref (xq X 0)), (1, .int x1), (2, .int x2), (3, .int x3), (4, .int x4)]) dX11_numberOfSet_56 (by decide) rfl rfl ?_
  refine r_sub [1, 2, 3, 4, 5, 0] rfl ?_
  exact T_X11_numberOfSet_j58 hK10 FU x1 x2 x3 x4 x3 (uI σ 10 y0) h
def P_X11_numberOfSet_j47 (K10 : Int32 → Int32 → Int32 → Int32 → SS → Option SS) (x1 : Int32) (x2 : Int32) (x3 : Int32) (x4 : Int32) (σ : SS) : Option SS :=
  P_X11_numberOfSet_j52 K10 x1 x2 x3 x4 1 σ
set_option maxHeartbeats 4000000 in
set_option maxRecDepth 100000 in
theorem T_X11_numberOfSet_j47 {X : XE} {σf : SS} {K10 : Int32 → Int32 → Int32 → Int32 → SS → Option SS} (hK10 : ∀ (x1 : Int32) (x2 : Int32) (x3 : Int32) (x4 : Int32) (σ : SS), K10 x1 x2 x3 x4 σ = some σf → V (gM X) 3 RX11 cX11_numberOfSet 9 none none σf 10 [(0, .ref (xq X 0)), (1, .int x1), (2, .int x2), (3, .int x3), (4, .int x4)] [] σ) : ∀ (x1 : Int32) (x2 : Int32) (x3 : Int32) (x4 : Int32) (σ : SS), P_X11_numberOfSet_j47 K10 x1 x2 x3 x4 σ = some σf → V (gM X) 3 RX11 cX11_numberOfSet 9 none none σf 47 [(0, .ref (xq X 0)), (1, .int x1), (2, .int x2), (3, .int x3), (4, .int x4)] [.ref (xq X 0)] σ := by
  intro x1 x2 x3 x4 σ h
  unfold P_X11_numberOfSet_j47 at h
  refine ric_1 dX11_numberOfSet_47 rfl ?_
  refine r_goto (t := 52) dX11_numberOfSet_48 (by decide) ?_
  exact T_X11_numberOfSet_j52 hK10 x1 x2 x3 x4 1 σ h
def P_X11_numberOfSet_j51 (K10 : Int32 → Int32 → Int32 → Int32 → SS → Option SS) (x1 : Int32) (x2 : Int32) (x3 : Int32) (x4 : Int32) (σ : SS) : Option SS :=
  P_X11_numberOfSet_j52 K10 x1 x2 x3 x4 0 σ
set_option maxHeartbeats 4000000 in
set_option maxRecDepth 100000 in
theorem T_X11_numberOfSet_j51 {X : XE} {σf : SS} {K10 : Int32 → Int32 → Int32 → Int32 → SS → Option SS} (hK10 : ∀ (x1 : Int32) (x2 : Int32) (x3 : Int32) (x4 : Int32) (σ : SS), K10 x1 x2 x3 x4 σ = some σf → V (gM X) 3 RX11 cX11_numberOfSet 9 none none σf 10 [(0, .ref (xq X 0)), (1, .int x1), (2, .int x2), (3, .int x3), (4, .int x4)] [] σ) : ∀ (x1 : Int32) (x2 : Int32) (x3 : Int32) (x4 : Int32) (σ : SS), P_X11_numberOfSet_j51 K10 x1 x2 x3 x4 σ = some σf → V (gM X) 3 RX11 cX11_numberOfSet 9 none none σf 51 [(0, .ref (xq X 0)), (1, .int x1), (2, .int x2), (3, .int x3), (4, .int x4)] [.ref (xq X 0)] σ := by
  intro x1 x2 x3 x4 σ h
  unfold P_X11_numberOfSet_j51 at h
  refine ric_0 dX11_numberOfSet_51 rfl ?_
  exact T_X11_numberOfSet_j52 hK10 x1 x2 x3 x4 0 σ h
def P_X11_numberOfSet_j157 : Nat → Int32 → Int32 → Int32 → Int64 → Int32 → Int32 → SS → Option SS
  | 0, _, _, _, _, _, _, _ => none
  | n + 1, x1, x2, x3, x4, x6, x7, σ =>
    if x3 ≤ x7 then
      gI x1 310 <|
      some (stL σ 3 x1 x4)
    else
      gI x7 310 <|
      gI (ldA σ 16 x7) 310 <|
      gI (ldA σ 16 x7) 310 <|
      (P_X11_waysBelow x2 x6 (ldA σ 12 (ldA σ 16 x7)) (ldL σ 3 (ldA σ 16 x7)) σ).bind fun v7 =>
      (P_X11_plus x4 v7).bind fun v9 =>
      gI (ldA σ 16 x7) 310 <|
      (P_X11_numberOfSet_j157 n) x1 x2 x3 v9 (x6 - (ldA σ 12 (ldA σ 16 x7))) (x7 + 1) σ
set_option maxHeartbeats 4000000 in
set_option maxRecDepth 100000 in
theorem T_X11_numberOfSet_j157 {X : XE} {σf : SS} : ∀ (fu : Nat) (x1 : Int32) (x2 : Int32) (x3 : Int32) (x4 : Int64) (x6 : Int32) (x7 : Int32) (σ : SS), P_X11_numberOfSet_j157 fu x1 x2 x3 x4 x6 x7 σ = some σf → V (gM X) 3 RX11 cX11_numberOfSet 9 none none σf 157 [(0, .ref (xq X 0)), (1, .int x1), (2, .int x2), (3, .int x3), (4, .long x4), (6, .int x6), (7, .int x7)] [] σ := by
  intro fu
  induction fu with
  | zero => intro x1 x2 x3 x4 x6 x7 σ h; exact no0 h
  | succ n ih =>
    intro x1 x2 x3 x4 x6 x7 σ h
    unfold P_X11_numberOfSet_j157 at h
    refine r_iload 6 dX11_numberOfSet_157 rfl rfl ?_
    refine r_iload_n 3 dX11_numberOfSet_159 rfl rfl rfl ?_
    refine r_icmp_ge (t := 218) dX11_numberOfSet_160 (by decide) rfl (fun c1 => ?_) (fun c1 => ?_)
    · have h := it_t c1 h
      refine r_aload_n 0 dX11_numberOfSet_218 rfl rfl rfl ?_
      refine gf_X11_66_0 dX11_numberOfSet_219 rfl ?_
      refine r_iload_n 1 dX11_numberOfSet_222 rfl rfl rfl ?_
      refine r_lload 4 dX11_numberOfSet_223 rfl rfl ?_
      obtain ⟨hi2, h⟩ := gi h
      refine asM_19 hi2 dX11_numberOfSet_225 rfl ?_
      exact r_vretS dX11_numberOfSet_226 h
    · have h := it_f c1 h
      refine r_aload_n 0 dX11_numberOfSet_163 rfl rfl rfl ?_
      refine gf_X11_72_0 dX11_numberOfSet_164 rfl ?_
      refine r_iload 6 dX11_numberOfSet_167 rfl rfl ?_
      obtain ⟨hi3, h⟩ := gi h
      refine alM_21 hi3 dX11_numberOfSet_169 rfl ?_
      refine r_istore (lv' := [(8, .int (ldA σ 16 x7)), (0, .ref (xq X 0)), (1, .int x1), (2, .int x2), (3, .int x3), (4, .long x4), (6, .int x6), (7, .int x7)]) dX11_numberOfSet_170 (by decide) rfl rfl ?_
      refine r_lload 5 dX11_numberOfSet_172 rfl rfl ?_
      refine r_aload_n 1 dX11_numberOfSet_174 rfl rfl rfl ?_
      refine r_iload_n 3 dX11_numberOfSet_175 rfl rfl rfl ?_
      refine r_iload 6 dX11_numberOfSet_176 rfl rfl ?_
      refine r_aload_n 1 dX11_numberOfSet_178 rfl rfl rfl ?_
      refine gf_X11_54_0 dX11_numberOfSet_179 rfl ?_
      refine r_iload 0 dX11_numberOfSet_182 rfl rfl ?_
      obtain ⟨hi4, h⟩ := gi h
      refine alM_15 hi4 dX11_numberOfSet_184 rfl ?_
      refine r_aload_n 1 dX11_numberOfSet_185 rfl rfl rfl ?_
      refine gf_X11_66_0 dX11_numberOfSet_186 rfl ?_
      refine r_iload 0 dX11_numberOfSet_189 rfl rfl ?_
      obtain ⟨hi5, h⟩ := gi h
      refine alM_19 hi5 dX11_numberOfSet_191 rfl ?_
      obtain ⟨v7, e6, h⟩ := bd h
      refine r_callV (rest := [.long x4]) (T_X11_waysBelow e6) (by decide) mf_X11_waysBelow rfl tw_1168 tw_57 tw_1166 cM_0 rfl rfl rfl (Nat.le_of_ble_eq_true rfl) dX11_numberOfSet_192 rfl ?_
      refine r_call0 ?_
      obtain ⟨v9, e8, h⟩ := bd h
      refine r_callS (As := [.long x4, .long v7]) (rest := []) (T_X11_plus e8) (by decide) mf_X11_plus rfl tw_1153 tw_1152 rfl (Nat.le_of_ble_eq_true rfl) dX11_numberOfSet_195 rfl ?_
      refine r_call0 ?_
      refine r_lstore (lv' := [(4, .long v9), (8, .int (ldA σ 16 x7)), (0, .ref (xq X 0)), (1, .int x1), (2, .int x2), (3, .int x3), (6, .int x6), (7, .int x7)]) dX11_numberOfSet_198 (by decide) rfl rfl ?_
      refine r_iload 6 dX11_numberOfSet_200 rfl rfl ?_
      refine r_aload_n 2 dX11_numberOfSet_202 rfl rfl rfl ?_
      refine gf_X11_54_0 dX11_numberOfSet_203 rfl ?_
      refine r_iload 1 dX11_numberOfSet_206 rfl rfl ?_
      obtain ⟨hi10, h⟩ := gi h
      refine alM_15 hi10 dX11_numberOfSet_208 rfl ?_
      refine r_isub dX11_numberOfSet_209 rfl ?_
      refine r_istore (lv' := [(6, .int (x6 - (ldA σ 12 (ldA σ 16 x7)))), (4, .long v9), (8, .int (ldA σ 16 x7)), (0, .ref (xq X 0)), (1, .int x1), (2, .int x2), (3, .int x3), (7, .int x7)]) dX11_numberOfSet_210 (by decide) rfl rfl ?_
      refine r_iinc (v := (x7 + 1)) (lv' := [(7, .int (x7 + 1)), (6, .int (x6 - (ldA σ 12 (ldA σ 16 x7)))), (4, .long v9), (8, .int (ldA σ 16 x7)), (0, .ref (xq X 0)), (1, .int x1), (2, .int x2), (3, .int x3)]) 7 dX11_numberOfSet_212 rfl rfl (by decide) rfl rfl ?_
      refine r_goto (t := 157) dX11_numberOfSet_215 (by decide) ?_
      refine r_sub [4, 5, 6, 7, 2, 1, 0] rfl ?_
      exact ih x1 x2 x3 v9 (x6 - (ldA σ 12 (ldA σ 16 x7))) (x7 + 1) σ h
def P_X11_numberOfSet_j143 (x1 : Int32) (x2 : Int32) (x3 : Int32) (σ : SS) : Option SS :=
  gI x1 310 <|
  P_X11_numberOfSet_j157 FU x1 x2 x3 0 (ldA σ 12 x1) 0 σ
set_option maxHeartbeats 4000000 in
set_option maxRecDepth 100000 in
theorem T_X11_numberOfSet_j143 {X : XE} {σf : SS} : ∀ (x1 : Int32) (x2 : Int32) (x3 : Int32) (σ : SS), P_X11_numberOfSet_j143 x1 x2 x3 σ = some σf → V (gM X) 3 RX11 cX11_numberOfSet 9 none none σf 143 [(0, .ref (xq X 0)), (1, .int x1), (2, .int x2), (3, .int x3)] [] σ := by
  intro x1 x2 x3 σ h
  unfold P_X11_numberOfSet_j143 at h
  refine rlc_0 dX11_numberOfSet_143 rfl ?_
  refine r_lstore (lv' := [(4, .long 0), (0, .ref (xq X 0)), (1, .int x1), (2, .int x2), (3, .int x3)]) dX11_numberOfSet_144 (by decide) rfl rfl ?_
  refine r_aload_n 1 dX11_numberOfSet_146 rfl rfl rfl ?_
  refine gf_X11_54_0 dX11_numberOfSet_147 rfl ?_
  refine r_iload_n 2 dX11_numberOfSet_150 rfl rfl rfl ?_
  obtain ⟨hi1, h⟩ := gi h
  refine alM_15 hi1 dX11_numberOfSet_151 rfl ?_
  refine r_istore (lv' := [(6, .int (ldA σ 12 x1)), (4, .long 0), (0, .ref (xq X 0)), (1, .int x1), (2, .int x2), (3, .int x3)]) dX11_numberOfSet_152 (by decide) rfl rfl ?_
  refine ric_0 dX11_numberOfSet_154 rfl ?_
  refine r_istore (lv' := [(7, .int 0), (6, .int (ldA σ 12 x1)), (4, .long 0), (0, .ref (xq X 0)), (1, .int x1), (2, .int x2), (3, .int x3)]) dX11_numberOfSet_155 (by decide) rfl rfl ?_
  refine r_sub [3, 4, 5, 6, 2, 1, 0] rfl ?_
  exact T_X11_numberOfSet_j157 FU x1 x2 x3 0 (ldA σ 12 x1) 0 σ h
def P_X11_numberOfSet_j10 : Nat → Int32 → Int32 → Int32 → Int32 → SS → Option SS
  | 0, _, _, _, _, _ => none
  | n + 1, x1, x2, x3, x4, σ =>
    if x4 = 0 then
      gI x2 16 <|
      if ¬ (ldA σ 0 x2) = 6 then
        P_X11_numberOfSet_j143 x1 x2 x3 σ
      else
        (P_X11_findAlike x1 σ).bind fun σ5 =>
        P_X11_numberOfSet_j143 x1 x2 x3 σ5
    else
      if ¬ (sI σ 10) = 0 then
        P_X11_numberOfSet_j47 (P_X11_numberOfSet_j10 n) x1 x2 x3 x4 σ
      else
        gI x4 310 <|
        if ¬ (ldA σ 15 x4) = 0 then
          P_X11_numberOfSet_j51 (P_X11_numberOfSet_j10 n) x1 x2 x3 x4 σ
        else
          gI x4 310 <|
          if (ldL σ 3 x4) < 10000000000000000 then
            P_X11_numberOfSet_j51 (P_X11_numberOfSet_j10 n) x1 x2 x3 x4 σ
          else
            P_X11_numberOfSet_j47 (P_X11_numberOfSet_j10 n) x1 x2 x3 x4 σ
set_option maxHeartbeats 4000000 in
set_option maxRecDepth 100000 in
theorem T_X11_numberOfSet_j10 {X : XE} {σf : SS} : ∀ (fu : Nat) (x1 : Int32) (x2 : Int32) (x3 : Int32) (x4 : Int32) (σ : SS), P_X11_numberOfSet_j10 fu x1 x2 x3 x4 σ = some σf → V (gM X) 3 RX11 cX11_numberOfSet 9 none none σf 10 [(0, .ref (xq X 0)), (1, .int x1), (2, .int x2), (3, .int x3), (4, .int x4)] [] σ := by
  intro fu
  induction fu with
  | zero => intro x1 x2 x3 x4 σ h; exact no0 h
  | succ n ih =>
    intro x1 x2 x3 x4 σ h
    unfold P_X11_numberOfSet_j10 at h
    refine r_iload 4 dX11_numberOfSet_10 rfl rfl ?_
    refine r_if_eq (t := 127) dX11_numberOfSet_12 (by decide) rfl (fun c1 => ?_) (fun c1 => ?_)
    · have h := it_t c1 h
      refine r_aload_n 0 dX11_numberOfSet_127 rfl rfl rfl ?_
      refine gf_X11_7_0 dX11_numberOfSet_128 rfl ?_
      refine r_iload_n 2 dX11_numberOfSet_131 rfl rfl rfl ?_
      obtain ⟨hi2, h⟩ := gi h
      refine alM_1 hi2 dX11_numberOfSet_132 rfl ?_
      refine r_bipush (v := 6) dX11_numberOfSet_133 (by decide) rfl ?_
      refine r_icmp_ne (t := 143) dX11_numberOfSet_135 (by decide) rfl (fun c3 => ?_) (fun c3 => ?_)
      · have h := it_t c3 h
        refine r_sub [0, 1, 2, 3] rfl ?_
        exact T_X11_numberOfSet_j143 x1 x2 x3 σ h
      · have h := it_n c3 h
        refine r_aload_n 0 dX11_numberOfSet_138 rfl rfl rfl ?_
        refine r_iload_n 1 dX11_numberOfSet_139 rfl rfl rfl ?_
        obtain ⟨σ5, e4, h⟩ := bd h
        refine r_callV (rest := []) (T_X11_findAlike e4) (by decide) mf_X11_findAlike rfl tw_1320 tw_83 tw_1318 cM_0 rfl rfl rfl (Nat.le_of_ble_eq_true rfl) dX11_numberOfSet_140 rfl ?_
        refine r_calln ?_
        refine r_sub [0, 1, 2, 3] rfl ?_
        exact T_X11_numberOfSet_j143 x1 x2 x3 σ5 h
    · have h := it_f c1 h
      refine r_aload_n 0 dX11_numberOfSet_15 rfl rfl rfl ?_
      refine r_aload_n 0 dX11_numberOfSet_16 rfl rfl rfl ?_
      refine gf_X11_302_0 dX11_numberOfSet_17 rfl ?_
      refine r_if_ne (t := 47) dX11_numberOfSet_20 (by decide) rfl (fun c6 => ?_) (fun c6 => ?_)
      · have h := it_t c6 h
        exact T_X11_numberOfSet_j47 ih x1 x2 x3 x4 σ h
      · have h := it_n c6 h
        refine r_aload_n 0 dX11_numberOfSet_23 rfl rfl rfl ?_
        refine gf_X11_69_0 dX11_numberOfSet_24 rfl ?_
        refine r_iload 4 dX11_numberOfSet_27 rfl rfl ?_
        obtain ⟨hi7, h⟩ := gi h
        refine alM_20 hi7 dX11_numberOfSet_29 rfl ?_
        refine r_if_ne (t := 51) dX11_numberOfSet_30 (by decide) rfl (fun c8 => ?_) (fun c8 => ?_)
        · have h := it_t c8 h
          exact T_X11_numberOfSet_j51 ih x1 x2 x3 x4 σ h
        · have h := it_n c8 h
          refine r_aload_n 0 dX11_numberOfSet_33 rfl rfl rfl ?_
          refine gf_X11_66_0 dX11_numberOfSet_34 rfl ?_
          refine r_iload 4 dX11_numberOfSet_37 rfl rfl ?_
          obtain ⟨hi9, h⟩ := gi h
          refine alM_19 hi9 dX11_numberOfSet_39 rfl ?_
          refine r_ldc2 (v := 10000000000000000) tw_1151 dX11_numberOfSet_40 rfl ?_
          refine r_lif_lt (t := 51) dX11_numberOfSet_43 rfl dX11_numberOfSet_44 (by decide) rfl (fun c10 => ?_) (fun c10 => ?_)
          · have h := it_t c10 h
            exact T_X11_numberOfSet_j51 ih x1 x2 x3 x4 σ h
          · have h := it_f c10 h
            exact T_X11_numberOfSet_j47 ih x1 x2 x3 x4 σ h
def P_X11_numberOfSet (a1 : Int32) (a2 : Int32) (σ : SS) : Option SS :=
  gI a1 310 <|
  P_X11_numberOfSet_j10 FU a1 a2 0 (ldA σ 13 a1) σ
set_option maxHeartbeats 4000000 in
set_option maxRecDepth 100000 in
theorem T_X11_numberOfSet {X : XE} {σf : SS} {σ : SS} {a1 : Int32} {a2 : Int32} (h : P_X11_numberOfSet a1 a2 σ = some σf) : Mt (gM X) 3 yX11_numberOfSet cX11_numberOfSet 9 none [.ref (xq X 0), .int a1, .int a2] σ none σf := by
  refine Mt.of (own := RX11) (lv := [(0, .ref (xq X 0)), (1, .int a1), (2, .int a2)]) pn_X11 rfl (Nat.le_of_ble_eq_true rfl) rfl ?_
  unfold P_X11_numberOfSet at h
  refine ric_0 dX11_numberOfSet_0 rfl ?_
  refine r_istore_n (lv' := [(3, .int 0), (0, .ref (xq X 0)), (1, .int a1), (2, .int a2)]) dX11_numberOfSet_1 rfl (by decide) rfl rfl ?_
  refine r_aload_n 1 dX11_numberOfSet_2 rfl rfl rfl ?_
  refine gf_X11_57_0 dX11_numberOfSet_3 rfl ?_
  refine r_iload_n 2 dX11_numberOfSet_6 rfl rfl rfl ?_
  obtain ⟨hi1, h⟩ := gi h
  refine alM_16 hi1 dX11_numberOfSet_7 rfl ?_
  refine r_istore (lv' := [(4, .int (ldA σ 13 a1)), (3, .int 0), (0, .ref (xq X 0)), (1, .int a1), (2, .int a2)]) dX11_numberOfSet_8 (by decide) rfl rfl ?_
  refine r_sub [2, 3, 4, 1, 0] rfl ?_
  exact T_X11_numberOfSet_j10 FU a1 a2 0 (ldA σ 13 a1) σ h
