noncomputable def m_X0_clear (h0 : Nat) (D : DT) : Option DT :=
  sq (sF D h0 0 0) (fun D2 =>
  sq (sF D2 h0 1 0) (fun D7 =>
  sq (sF D7 h0 2 0) (fun D12 =>
  some D12
  )))
noncomputable def m_X0_add (h0 : Nat) (h1 : Nat) (v2 : Int) (v3 : Int) (D : DT) : Option DT :=
  gd (InR v3) (
  sq (sF D h0 0 ((D.1 h0 0) + v3)) (fun D8 =>
  gd (InR v3) (
  gd ((0 : Int) ≤ v2 ∧ v2 < (384 : Int)) (
  gd (InR (D8.2 (h1 + 3) (Int.toNat v2))) (
  sq (sF D8 h0 1 ((D8.1 h0 1) + (v3 * (D8.2 (h1 + 3) (Int.toNat v2))))) (fun D27 =>
  gd (InR v3) (
  gd ((0 : Int) ≤ v2 ∧ v2 < (384 : Int)) (
  gd (InR (D27.2 (h1 + 4) (Int.toNat v2))) (
  sq (sF D27 h0 2 ((D27.1 h0 2) + (v3 * (D27.2 (h1 + 4) (Int.toNat v2))))) (fun D46 =>
  some D46
  ))))))))))
noncomputable def m_X0_isEmpty (h0 : Nat) (D : DT) : Option Int :=
  gd (InL (D.1 h0 0) ∧ InL 0) (if (D.1 h0 0) = 0 then (
    some 1
  ) else (
    some 0
  ))
noncomputable def m_X0_pullFrom (h0 : Nat) (h1 : Nat) (v2 : Int) (D : DT) : Option Int :=
  gd ((0 : Int) ≤ v2 ∧ v2 < (384 : Int)) (
  gd (InR (D.2 (h1 + 3) (Int.toNat v2))) (
  gd ((0 : Int) ≤ v2 ∧ v2 < (384 : Int)) (
  gd (InR (D.2 (h1 + 4) (Int.toNat v2))) (
  some ((((D.1 h0 0) * (((D.2 (h1 + 3) (Int.toNat v2)) * (D.2 (h1 + 3) (Int.toNat v2))) + ((D.2 (h1 + 4) (Int.toNat v2)) * (D.2 (h1 + 4) (Int.toNat v2))))) - ((2 * (D.2 (h1 + 3) (Int.toNat v2))) * (D.1 h0 1))) - ((2 * (D.2 (h1 + 4) (Int.toNat v2))) * (D.1 h0 2)))
  ))))
noncomputable def m_X1_cells (h0 : Nat) (D : DT) : Option Int :=
  some ((D.1 h0 0) * (D.1 h0 1))
noncomputable def m_X1_clear (h0 : Nat) (D : DT) : Option DT :=
  sq (sF D h0 0 0) (fun D2 =>
  sq (sF D2 h0 1 0) (fun D7 =>
  sq (sF D7 h0 2 0) (fun D12 =>
  sq (sF D12 h0 3 1) (fun D17 =>
  some D17
  ))))
noncomputable def m_X1_shape_23 (h0 : Nat) (v3 : Int) (s : (Int × DT)) : Option ((Int × DT) ⊕ DT) := loopF (fun s =>
  gd (InR s.1 ∧ InR (s.2.1 h0 0)) (if s.1 < (s.2.1 h0 0) then (
    gd ((0 : Int) ≤ ((v3 * (s.2.1 h0 0)) + s.1) ∧ ((v3 * (s.2.1 h0 0)) + s.1) < (384 : Int)) (sq (sA s.2 (h0 + 1) (Int.toNat ((v3 * (s.2.1 h0 0)) + s.1)) (-1)) (fun D50 =>
    gd (((0 : Int) ≤ ((v3 * (s.2.1 h0 0)) + s.1) ∧ ((v3 * (s.2.1 h0 0)) + s.1) < (384 : Int)) ∧ ((0 : Int) = 0 ∨ (0 : Int) = 1)) (sq (sA D50 (h0 + 2) (Int.toNat ((v3 * (s.2.1 h0 0)) + s.1)) 0) (fun D58 =>
    gd ((0 : Int) ≤ ((v3 * (s.2.1 h0 0)) + s.1) ∧ ((v3 * (s.2.1 h0 0)) + s.1) < (384 : Int)) (sq (sA D58 (h0 + 3) (Int.toNat ((v3 * (s.2.1 h0 0)) + s.1)) s.1) (fun D67 =>
    gd ((0 : Int) ≤ ((v3 * (s.2.1 h0 0)) + s.1) ∧ ((v3 * (s.2.1 h0 0)) + s.1) < (384 : Int)) (sq (sA D67 (h0 + 4) (Int.toNat ((v3 * (s.2.1 h0 0)) + s.1)) v3) (fun D75 =>
    some (.inl ((s.1 + 1), D75))
    ))))))))
  ) else (
    done (
    some (.inl ((v3 + 1), s.2))
    )
  ))) s
noncomputable def m_X1_shape_12 (h0 : Nat) (s : (Int × DT)) : Option DT := loopF (fun s =>
  gd (InR s.1 ∧ InR (s.2.1 h0 1)) (if s.1 < (s.2.1 h0 1) then (
    m_X1_shape_23 h0 s.1 (0, s.2)
  ) else (
    done (
    some s.2
    )
  ))) s
noncomputable def m_X1_shape (h0 : Nat) (v1 : Int) (v2 : Int) (D : DT) : Option DT :=
  sq (sF D h0 0 v1) (fun D2 =>
  sq (sF D2 h0 1 v2) (fun D7 =>
  m_X1_shape_12 h0 (0, D7)
  ))
noncomputable def m_X1_copyFrom_127 (h0 : Nat) (h1 : Nat) (s : (Int × DT)) : Option DT := loopF (fun s =>
  gd (InR s.1 ∧ InR 384) (if s.1 < 384 then (
    gd ((0 : Int) ≤ s.1 ∧ s.1 < (384 : Int)) (
    gd (((0 : Int) ≤ s.1 ∧ s.1 < (384 : Int)) ∧ (((s.2.2 (h1 + 2) (Int.toNat s.1)) : Int) = 0 ∨ ((s.2.2 (h1 + 2) (Int.toNat s.1)) : Int) = 1)) (sq (sA s.2 (h0 + 2) (Int.toNat s.1) (s.2.2 (h1 + 2) (Int.toNat s.1))) (fun D145 =>
    some (.inl ((s.1 + 1), D145))
    )))
  ) else (
    done (
    some s.2
    )
  ))) s
noncomputable def m_X1_copyFrom (h0 : Nat) (h1 : Nat) (D : DT) : Option DT :=
  sq (sF D h0 0 (D.1 h1 0)) (fun D5 =>
  sq (sF D5 h0 1 (D5.1 h1 1)) (fun D13 =>
  sq (sF D13 h0 2 (D13.1 h1 2)) (fun D21 =>
  sq (sF D21 h0 3 (D21.1 h1 3)) (fun D29 =>
  gd ((h1 + 1) ≠ (h0 + 1) ∧ ((0 : Int) ≤ 0 ∧ (0 : Int) + 384 ≤ (384 : Int)) ∧ ((0 : Int) ≤ 0 ∧ (0 : Int) + 384 ≤ (384 : Int)) ∧ (0 : Int) ≤ 384) (sq (sCopy D29 (h1 + 1) (Int.toNat 0) (h0 + 1) (Int.toNat 0) (Int.toNat 384)) (fun D45 =>
  gd ((h1 + 3) ≠ (h0 + 3) ∧ ((0 : Int) ≤ 0 ∧ (0 : Int) + 384 ≤ (384 : Int)) ∧ ((0 : Int) ≤ 0 ∧ (0 : Int) + 384 ≤ (384 : Int)) ∧ (0 : Int) ≤ 384) (sq (sCopy D45 (h1 + 3) (Int.toNat 0) (h0 + 3) (Int.toNat 0) (Int.toNat 384)) (fun D61 =>
  gd ((h1 + 4) ≠ (h0 + 4) ∧ ((0 : Int) ≤ 0 ∧ (0 : Int) + 384 ≤ (384 : Int)) ∧ ((0 : Int) ≤ 0 ∧ (0 : Int) + 384 ≤ (384 : Int)) ∧ (0 : Int) ≤ 384) (sq (sCopy D61 (h1 + 4) (Int.toNat 0) (h0 + 4) (Int.toNat 0) (Int.toNat 384)) (fun D77 =>
  gd ((h1 + 5) ≠ (h0 + 5) ∧ ((0 : Int) ≤ 0 ∧ (0 : Int) + 24 ≤ (24 : Int)) ∧ ((0 : Int) ≤ 0 ∧ (0 : Int) + 24 ≤ (24 : Int)) ∧ (0 : Int) ≤ 24) (sq (sCopy D77 (h1 + 5) (Int.toNat 0) (h0 + 5) (Int.toNat 0) (Int.toNat 24)) (fun D92 =>
  gd (((h1 + 6) ≠ (h0 + 6) ∧ ((0 : Int) ≤ 0 ∧ (0 : Int) + 48 ≤ (48 : Int)) ∧ ((0 : Int) ≤ 0 ∧ (0 : Int) + 48 ≤ (48 : Int)) ∧ (0 : Int) ≤ 48) ∧ ∀ i, i < (Int.toNat 48) → -128 ≤ D92.2 (h1 + 6) ((Int.toNat 0) + i) ∧ D92.2 (h1 + 6) ((Int.toNat 0) + i) ≤ 127) (sq (sCopy D92 (h1 + 6) (Int.toNat 0) (h0 + 6) (Int.toNat 0) (Int.toNat 48)) (fun D107 =>
  gd ((h1 + 7) ≠ (h0 + 7) ∧ ((0 : Int) ≤ 0 ∧ (0 : Int) + 8 ≤ (8 : Int)) ∧ ((0 : Int) ≤ 0 ∧ (0 : Int) + 8 ≤ (8 : Int)) ∧ (0 : Int) ≤ 8) (sq (sCopy D107 (h1 + 7) (Int.toNat 0) (h0 + 7) (Int.toNat 0) (Int.toNat 8)) (fun D122 =>
  m_X1_copyFrom_127 h0 h1 (0, D122)
  ))))))))))))))))
noncomputable def m_X1_far (h0 : Nat) (v1 : Int) (v2 : Int) (D : DT) : Option Int :=
  gd ((0 : Int) ≤ v1 ∧ v1 < (384 : Int)) (
  gd ((0 : Int) ≤ v2 ∧ v2 < (384 : Int)) (
  gd ((0 : Int) ≤ v1 ∧ v1 < (384 : Int)) (
  gd ((0 : Int) ≤ v2 ∧ v2 < (384 : Int)) (
  some ((((D.2 (h0 + 3) (Int.toNat v1)) - (D.2 (h0 + 3) (Int.toNat v2))) * ((D.2 (h0 + 3) (Int.toNat v1)) - (D.2 (h0 + 3) (Int.toNat v2)))) + (((D.2 (h0 + 4) (Int.toNat v1)) - (D.2 (h0 + 4) (Int.toNat v2))) * ((D.2 (h0 + 4) (Int.toNat v1)) - (D.2 (h0 + 4) (Int.toNat v2)))))
  ))))
noncomputable def m_X1_beside (h0 : Nat) (v1 : Int) (v2 : Int) (D : DT) : Option Int :=
  gd ((0 : Int) ≤ v1 ∧ v1 < (384 : Int)) (
  gd ((0 : Int) ≤ v1 ∧ v1 < (384 : Int)) (
  gd (InR v2) (
  if v2 = 0 then (
    gd (InR (D.2 (h0 + 4) (Int.toNat v1))) (if 0 < (D.2 (h0 + 4) (Int.toNat v1)) then (
      some (v1 - (D.1 h0 0))
    ) else (
      some (-1)
    ))
  ) else 
  if v2 = 1 then (
    gd (InR (D.2 (h0 + 3) (Int.toNat v1))) (if 0 < (D.2 (h0 + 3) (Int.toNat v1)) then (
      some (v1 - 1)
    ) else (
      some (-1)
    ))
  ) else 
  if v2 = 2 then (
    gd (InR (D.2 (h0 + 3) (Int.toNat v1)) ∧ InR ((D.1 h0 0) - 1)) (if (D.2 (h0 + 3) (Int.toNat v1)) < ((D.1 h0 0) - 1) then (
      some (v1 + 1)
    ) else (
      some (-1)
    ))
  ) else 
  (
    gd (InR (D.2 (h0 + 4) (Int.toNat v1)) ∧ InR ((D.1 h0 1) - 1)) (if (D.2 (h0 + 4) (Int.toNat v1)) < ((D.1 h0 1) - 1) then (
      some (v1 + (D.1 h0 0))
    ) else (
      some (-1)
    ))
  ))
  ))
noncomputable def m_X1_isLand (h0 : Nat) (v1 : Int) (D : DT) : Option Int :=
  gd ((0 : Int) ≤ v1 ∧ v1 < (384 : Int)) (
  gd (InR (D.2 (h0 + 1) (Int.toNat v1)) ∧ InR (-1)) (if (D.2 (h0 + 1) (Int.toNat v1)) = (-1) then (
    some 0
  ) else (
    gd ((0 : Int) ≤ v1 ∧ v1 < (384 : Int)) (
    gd (InR (D.2 (h0 + 2) (Int.toNat v1))) (if (D.2 (h0 + 2) (Int.toNat v1)) = 0 then (
      some 1
    ) else (
      some 0
    ))
    )
  ))
  )
noncomputable def m_X1_isLandOf (h0 : Nat) (v1 : Int) (v2 : Int) (D : DT) : Option Int :=
  gd ((0 : Int) ≤ v1 ∧ v1 < (384 : Int)) (
  gd (InR (D.2 (h0 + 1) (Int.toNat v1)) ∧ InR v2) (if (D.2 (h0 + 1) (Int.toNat v1)) = v2 then (
    gd ((0 : Int) ≤ v1 ∧ v1 < (384 : Int)) (
    gd (InR (D.2 (h0 + 2) (Int.toNat v1))) (if (D.2 (h0 + 2) (Int.toNat v1)) = 0 then (
      some 1
    ) else (
      some 0
    ))
    )
  ) else (
    some 0
  ))
  )
noncomputable def m_X1_livingIn (h0 : Nat) (v1 : Int) (v2 : Int) (D : DT) : Option Int :=
  gd ((0 : Int) ≤ ((v1 * 3) + v2) ∧ ((v1 * 3) + v2) < (24 : Int)) (
  some (D.2 (h0 + 5) (Int.toNat ((v1 * 3) + v2)))
  )
noncomputable def m_X1_settle (h0 : Nat) (v1 : Int) (v2 : Int) (v3 : Int) (D : DT) : Option DT :=
  gd (InR v3 ∧ InR 99999) (if v3 < 99999 then (
    gd ((0 : Int) ≤ ((v1 * 3) + v2) ∧ ((v1 * 3) + v2) < (24 : Int)) (sq (sA D (h0 + 5) (Int.toNat ((v1 * 3) + v2)) v3) (fun D21 =>
    some D21
    ))
  ) else (
    gd ((0 : Int) ≤ ((v1 * 3) + v2) ∧ ((v1 * 3) + v2) < (24 : Int)) (sq (sA D (h0 + 5) (Int.toNat ((v1 * 3) + v2)) 99999) (fun D21 =>
    some D21
    ))
  ))
noncomputable def m_X1_cellsOf_4 (h0 : Nat) (v1 : Int) (D : DT) (s : (Int × Int)) : Option Int := loopF (fun s =>
  (m_X1_cells h0 D).bind (fun r6 =>
  gd (InR s.2 ∧ InR r6) (if s.2 < r6 then (
    gd ((0 : Int) ≤ s.2 ∧ s.2 < (384 : Int)) (
    gd (InR (D.2 (h0 + 1) (Int.toNat s.2)) ∧ InR v1) (if (D.2 (h0 + 1) (Int.toNat s.2)) = v1 then (
      some (.inl ((s.1 + 1), (s.2 + 1)))
    ) else (
      some (.inl ((s.1 + 0), (s.2 + 1)))
    ))
    )
  ) else (
    done (
    some s.1
    )
  ))
  )) s
noncomputable def m_X1_cellsOf (h0 : Nat) (v1 : Int) (D : DT) : Option Int :=
  m_X1_cellsOf_4 h0 v1 D (0, 0)
noncomputable def m_X1_landOf_4 (h0 : Nat) (v1 : Int) (D : DT) (s : (Int × Int)) : Option Int := loopF (fun s =>
  (m_X1_cells h0 D).bind (fun r6 =>
  gd (InR s.2 ∧ InR r6) (if s.2 < r6 then (
    (m_X1_isLandOf h0 s.2 v1 D).bind (fun r16 =>
    gd (InR r16) (if r16 = 0 then (
      some (.inl ((s.1 + 0), (s.2 + 1)))
    ) else (
      some (.inl ((s.1 + 1), (s.2 + 1)))
    ))
    )
  ) else (
    done (
    some s.1
    )
  ))
  )) s
noncomputable def m_X1_landOf (h0 : Nat) (v1 : Int) (D : DT) : Option Int :=
  m_X1_landOf_4 h0 v1 D (0, 0)
noncomputable def m_X1_shoreOf_15 (h0 : Nat) (v1 : Int) (v3 : Int) (D : DT) (s : (Int × Int)) : Option ((Int × Int) ⊕ Int) := loopF (fun s =>
  gd (InR s.2 ∧ InR 4) (if s.2 < 4 then (
    (m_X1_isLandOf h0 v3 v1 D).bind (fun r24 =>
    gd (InR r24) (if r24 = 0 then (
      done (
      some (.inl (s.1, (v3 + 1)))
      )
    ) else (
      (m_X1_beside h0 v3 s.2 D).bind (fun r34 =>
      gd (InR r34 ∧ InR (-1)) (if r34 = (-1) then (
        some (.inl ((s.1 + 0), (s.2 + 1)))
      ) else (
        gd ((0 : Int) ≤ r34 ∧ r34 < (384 : Int)) (
        gd (InR (D.2 (h0 + 2) (Int.toNat r34))) (if (D.2 (h0 + 2) (Int.toNat r34)) = 0 then (
          some (.inl ((s.1 + 0), (s.2 + 1)))
        ) else (
          some (.inl ((s.1 + 1), (s.2 + 1)))
        ))
        )
      ))
      )
    ))
    )
  ) else (
    done (
    some (.inl (s.1, (v3 + 1)))
    )
  ))) s
noncomputable def m_X1_shoreOf_4 (h0 : Nat) (v1 : Int) (D : DT) (s : (Int × Int)) : Option Int := loopF (fun s =>
  (m_X1_cells h0 D).bind (fun r6 =>
  gd (InR s.2 ∧ InR r6) (if s.2 < r6 then (
    m_X1_shoreOf_15 h0 v1 s.2 D (s.1, 0)
  ) else (
    done (
    some s.1
    )
  ))
  )) s
noncomputable def m_X1_shoreOf (h0 : Nat) (v1 : Int) (D : DT) : Option Int :=
  m_X1_shoreOf_4 h0 v1 D (0, 0)
noncomputable def m_X1_borderOf_15 (h0 : Nat) (v1 : Int) (v3 : Int) (D : DT) (s : (Int × Int)) : Option ((Int × Int) ⊕ Int) := loopF (fun s =>
  gd (InR s.2 ∧ InR 4) (if s.2 < 4 then (
    (m_X1_isLandOf h0 v3 v1 D).bind (fun r24 =>
    gd (InR r24) (if r24 = 0 then (
      done (
      some (.inl (s.1, (v3 + 1)))
      )
    ) else (
      (m_X1_beside h0 v3 s.2 D).bind (fun r34 =>
      gd (InR r34 ∧ InR (-1)) (if r34 = (-1) then (
        some (.inl ((s.1 + 0), (s.2 + 1)))
      ) else (
        (m_X1_isLand h0 r34 D).bind (fun r49 =>
        gd (InR r49) (if r49 = 0 then (
          some (.inl ((s.1 + 0), (s.2 + 1)))
        ) else (
          gd ((0 : Int) ≤ r34 ∧ r34 < (384 : Int)) (
          gd (InR (D.2 (h0 + 1) (Int.toNat r34)) ∧ InR v1) (if (D.2 (h0 + 1) (Int.toNat r34)) = v1 then (
            some (.inl ((s.1 + 0), (s.2 + 1)))
          ) else (
            some (.inl ((s.1 + 1), (s.2 + 1)))
          ))
          )
        ))
        )
      ))
      )
    ))
    )
  ) else (
    done (
    some (.inl (s.1, (v3 + 1)))
    )
  ))) s
noncomputable def m_X1_borderOf_4 (h0 : Nat) (v1 : Int) (D : DT) (s : (Int × Int)) : Option Int := loopF (fun s =>
  (m_X1_cells h0 D).bind (fun r6 =>
  gd (InR s.2 ∧ InR r6) (if s.2 < r6 then (
    m_X1_borderOf_15 h0 v1 s.2 D (s.1, 0)
  ) else (
    done (
    some s.1
    )
  ))
  )) s
noncomputable def m_X1_borderOf (h0 : Nat) (v1 : Int) (D : DT) : Option Int :=
  m_X1_borderOf_4 h0 v1 D (0, 0)
noncomputable def m_X1_startsRun (h0 : Nat) (v1 : Int) (v2 : Int) (v3 : Int) (D : DT) : Option Int :=
  (m_X1_isLandOf h0 ((v2 * (D.1 h0 0)) + v3) v1 D).bind (fun r14 =>
  gd (InR r14) (if r14 = 0 then (
    some 0
  ) else (
    gd (InR v3) (if v3 = 0 then (
      some 1
    ) else (
      (m_X1_isLandOf h0 (((v2 * (D.1 h0 0)) + v3) - 1) v1 D).bind (fun r30 =>
      gd (InR r30) (if r30 = 0 then (
        some 1
      ) else (
        some 0
      ))
      )
    ))
  ))
  )
noncomputable def m_X1_runsOf_5 (h0 : Nat) (v1 : Int) (v2 : Int) (D : DT) (s : (Int × Int)) : Option Int := loopF (fun s =>
  gd (InR s.2 ∧ InR (D.1 h0 0)) (if s.2 < (D.1 h0 0) then (
    (m_X1_startsRun h0 v1 v2 s.2 D).bind (fun r20 =>
    gd (InR r20) (if r20 = 0 then (
      some (.inl ((s.1 + 0), (s.2 + 1)))
    ) else (
      some (.inl ((s.1 + 1), (s.2 + 1)))
    ))
    )
  ) else (
    done (
    some s.1
    )
  ))) s
noncomputable def m_X1_runsOf (h0 : Nat) (v1 : Int) (v2 : Int) (D : DT) : Option Int :=
  m_X1_runsOf_5 h0 v1 v2 D (0, 0)
noncomputable def m_X1_allRunsOf_4 (h0 : Nat) (v1 : Int) (D : DT) (s : (Int × Int)) : Option Int := loopF (fun s =>
  gd (InR s.2 ∧ InR (D.1 h0 1)) (if s.2 < (D.1 h0 1) then (
    (m_X1_runsOf h0 v1 s.2 D).bind (fun r16 =>
    some (.inl ((s.1 + r16), (s.2 + 1)))
    )
  ) else (
    done (
    some s.1
    )
  ))) s
noncomputable def m_X1_allRunsOf (h0 : Nat) (v1 : Int) (D : DT) : Option Int :=
  m_X1_allRunsOf_4 h0 v1 D (0, 0)
noncomputable def m_X1_runEnd_3 (h0 : Nat) (v1 : Int) (v2 : Int) (D : DT) (s : Int) : Option Int := loopF (fun s =>
  gd (InR s ∧ InR ((D.1 h0 0) - 1)) (if s < ((D.1 h0 0) - 1) then (
    (m_X1_isLandOf h0 (((v2 * (D.1 h0 0)) + s) + 1) v1 D).bind (fun r27 =>
    gd (InR r27) (if r27 = 0 then (
      done (
      some s
      )
    ) else (
      some (.inl (s + 1))
    ))
    )
  ) else (
    done (
    some s
    )
  ))) s
noncomputable def m_X1_runEnd (h0 : Nat) (v1 : Int) (v2 : Int) (v3 : Int) (D : DT) : Option Int :=
  m_X1_runEnd_3 h0 v1 v2 D v3
noncomputable def m_X1_runEdge_6 (h0 : Nat) (v1 : Int) (v2 : Int) (v3 : Int) (v4 : Int) (D : DT) (s : (Int × Int)) : Option Int := loopF (fun s =>
  gd (InR s.2 ∧ InR (D.1 h0 0)) (if s.2 < (D.1 h0 0) then (
    (m_X1_startsRun h0 v1 v2 s.2 D).bind (fun r20 =>
    gd (InR r20) (if r20 = 0 then (
      some (.inl (s.1, (s.2 + 1)))
    ) else (
      gd (InR s.1 ∧ InR v3) (if s.1 = v3 then (
        done (
        gd (InR v4) (if v4 = 0 then (
          some s.2
        ) else (
          (m_X1_runEnd h0 v1 v2 s.2 D).bind (fun r42 =>
          some r42
          )
        ))
        )
      ) else (
        some (.inl ((s.1 + 1), (s.2 + 1)))
      ))
    ))
    )
  ) else (
    done (
    some (-1)
    )
  ))) s
noncomputable def m_X1_runEdge (h0 : Nat) (v1 : Int) (v2 : Int) (v3 : Int) (v4 : Int) (D : DT) : Option Int :=
  m_X1_runEdge_6 h0 v1 v2 v3 v4 D (0, 0)
noncomputable def m_X1_seaCells_4 (h0 : Nat) (D : DT) (s : (Int × Int)) : Option Int := loopF (fun s =>
  (m_X1_cells h0 D).bind (fun r6 =>
  gd (InR s.2 ∧ InR r6) (if s.2 < r6 then (
    gd ((0 : Int) ≤ s.2 ∧ s.2 < (384 : Int)) (
    gd (InR (D.2 (h0 + 2) (Int.toNat s.2))) (if (D.2 (h0 + 2) (Int.toNat s.2)) = 0 then (
      some (.inl ((s.1 + 0), (s.2 + 1)))
    ) else (
      some (.inl ((s.1 + 1), (s.2 + 1)))
    ))
    )
  ) else (
    done (
    some s.1
    )
  ))
  )) s
noncomputable def m_X1_seaCells (h0 : Nat) (D : DT) : Option Int :=
  m_X1_seaCells_4 h0 D (0, 0)
noncomputable def m_X1_landCells_4 (h0 : Nat) (D : DT) (s : (Int × Int)) : Option Int := loopF (fun s =>
  (m_X1_cells h0 D).bind (fun r6 =>
  gd (InR s.2 ∧ InR r6) (if s.2 < r6 then (
    (m_X1_isLand h0 s.2 D).bind (fun r15 =>
    gd (InR r15) (if r15 = 0 then (
      some (.inl ((s.1 + 0), (s.2 + 1)))
    ) else (
      some (.inl ((s.1 + 1), (s.2 + 1)))
    ))
    )
  ) else (
    done (
    some s.1
    )
  ))
  )) s
noncomputable def m_X1_landCells (h0 : Nat) (D : DT) : Option Int :=
  m_X1_landCells_4 h0 D (0, 0)
noncomputable def m_X1_freeCells (h0 : Nat) (D : DT) : Option Int :=
  (m_X1_cells h0 D).bind (fun r1 =>
  (m_X1_seaCells h0 D).bind (fun r5 =>
  (m_X1_landCells h0 D).bind (fun r10 =>
  some ((r1 - r5) - r10)
  )))
noncomputable def m_X1_everybody_14 (h0 : Nat) (v2 : Int) (D : DT) (s : (Int × Int)) : Option ((Int × Int) ⊕ Int) := loopF (fun s =>
  gd (InR s.2 ∧ InR (D.1 h0 3)) (if s.2 < (D.1 h0 3) then (
    (m_X1_livingIn h0 v2 s.2 D).bind (fun r26 =>
    some (.inl ((s.1 + r26), (s.2 + 1)))
    )
  ) else (
    done (
    some (.inl (s.1, (v2 + 1)))
    )
  ))) s
noncomputable def m_X1_everybody_4 (h0 : Nat) (D : DT) (s : (Int × Int)) : Option Int := loopF (fun s =>
  gd (InR s.2 ∧ InR (D.1 h0 2)) (if s.2 < (D.1 h0 2) then (
    m_X1_everybody_14 h0 s.2 D (s.1, 0)
  ) else (
    done (
    some s.1
    )
  ))) s
noncomputable def m_X1_everybody (h0 : Nat) (D : DT) : Option Int :=
  m_X1_everybody_4 h0 D (0, 0)
noncomputable def m_X1_shift_91 (h0 : Nat) (v1 : Int) (v2 : Int) (v6 : Int) (v7 : Int) (v8 : Int) (s : (Int × DT)) : Option (Int × DT) := loopF (fun s =>
  gd (InR s.1 ∧ InR (s.2.1 h0 3)) (if s.1 < (s.2.1 h0 3) then (
    (m_X1_livingIn h0 v1 s.1 s.2).bind (fun r104 =>
    gd ((0 : Int) ≤ (r104 * v8) ∧ (r104 * v8) ≤ (2147483647 : Int) ∧ (0 : Int) < v6 ∧ v6 ≤ (2147483647 : Int)) (
    (m_X1_livingIn h0 v1 s.1 s.2).bind (fun r123 =>
    (m_X1_settle h0 v1 s.1 (r123 - ((r104 * v8) / v6)) s.2).bind (fun D129 =>
    (m_X1_livingIn h0 v2 s.1 D129).bind (fun r140 =>
    (m_X1_settle h0 v2 s.1 (r140 + ((r104 * v8) / v6)) D129).bind (fun D146 =>
    some (.inl ((s.1 + 1), D146))
    ))))))
  ) else (
    done (
    some (v7, s.2)
    )
  ))) s
noncomputable def m_X1_shift_17 (h0 : Nat) (v1 : Int) (v2 : Int) (v3 : Int) (v5 : Int) (v6 : Int) (s : (Int × Int × Int × DT)) : Option (Int × DT) := loopF (fun s =>
  gd (InR s.2.2.1 ∧ InR v5) (if s.2.2.1 ≤ v5 then (
    gd ((0 : Int) ≤ ((v3 * (s.2.2.2.1 h0 0)) + s.2.2.1) ∧ ((v3 * (s.2.2.2.1 h0 0)) + s.2.2.1) < (384 : Int)) (
    gd (InR (s.2.2.2.2 (h0 + 1) (Int.toNat ((v3 * (s.2.2.2.1 h0 0)) + s.2.2.1))) ∧ InR v1) (if (s.2.2.2.2 (h0 + 1) (Int.toNat ((v3 * (s.2.2.2.1 h0 0)) + s.2.2.1))) = v1 then (
      gd ((0 : Int) ≤ ((v3 * (s.2.2.2.1 h0 0)) + s.2.2.1) ∧ ((v3 * (s.2.2.2.1 h0 0)) + s.2.2.1) < (384 : Int)) (sq (sA s.2.2.2 (h0 + 1) (Int.toNat ((v3 * (s.2.2.2.1 h0 0)) + s.2.2.1)) v2) (fun D53 =>
      gd ((0 : Int) ≤ ((v3 * (s.2.2.2.1 h0 0)) + s.2.2.1) ∧ ((v3 * (s.2.2.2.1 h0 0)) + s.2.2.1) < (384 : Int)) (
      gd (InR (D53.2 (h0 + 2) (Int.toNat ((v3 * (s.2.2.2.1 h0 0)) + s.2.2.1)))) (if (D53.2 (h0 + 2) (Int.toNat ((v3 * (s.2.2.2.1 h0 0)) + s.2.2.1))) = 0 then (
        some (.inl ((s.1 + 1), (s.2.1 + 1), (s.2.2.1 + 1), D53))
      ) else (
        some (.inl ((s.1 + 1), (s.2.1 + 0), (s.2.2.1 + 1), D53))
      ))
      )))
    ) else (
      some (.inl (s.1, s.2.1, (s.2.2.1 + 1), s.2.2.2))
    ))
    )
  ) else (
    done (
    gd (InR v6) (if 0 < v6 then (
      m_X1_shift_91 h0 v1 v2 v6 s.1 s.2.1 (0, s.2.2.2)
    ) else (
      some (s.1, s.2.2.2)
    ))
    )
  ))) s
noncomputable def m_X1_shift (h0 : Nat) (v1 : Int) (v2 : Int) (v3 : Int) (v4 : Int) (v5 : Int) (D : DT) : Option (Int × DT) :=
  (m_X1_landOf h0 v1 D).bind (fun r2 =>
  m_X1_shift_17 h0 v1 v2 v3 v5 r2 (0, 0, v4, D)
  )
noncomputable def m_X1_join_35 (h0 : Nat) (v1 : Int) (v2 : Int) (s : (Int × DT)) : Option DT := loopF (fun s =>
  gd (InR s.1 ∧ InR (s.2.1 h0 3)) (if s.1 < (s.2.1 h0 3) then (
    (m_X1_livingIn h0 v1 s.1 s.2).bind (fun r49 =>
    (m_X1_livingIn h0 v2 s.1 s.2).bind (fun r55 =>
    (m_X1_settle h0 v1 s.1 (r49 + r55) s.2).bind (fun D59 =>
    (m_X1_settle h0 v2 s.1 0 D59).bind (fun D66 =>
    some (.inl ((s.1 + 1), D66))
    ))))
  ) else (
    done (
    some s.2
    )
  ))) s
noncomputable def m_X1_join_2 (h0 : Nat) (v1 : Int) (v2 : Int) (s : (Int × DT)) : Option DT := loopF (fun s =>
  (m_X1_cells h0 s.2).bind (fun r4 =>
  gd (InR s.1 ∧ InR r4) (if s.1 < r4 then (
    gd ((0 : Int) ≤ s.1 ∧ s.1 < (384 : Int)) (
    gd (InR (s.2.2 (h0 + 1) (Int.toNat s.1)) ∧ InR v2) (if (s.2.2 (h0 + 1) (Int.toNat s.1)) = v2 then (
      gd ((0 : Int) ≤ s.1 ∧ s.1 < (384 : Int)) (sq (sA s.2 (h0 + 1) (Int.toNat s.1) v1) (fun D26 =>
      some (.inl ((s.1 + 1), D26))
      ))
    ) else (
      some (.inl ((s.1 + 1), s.2))
    ))
    )
  ) else (
    done (
    m_X1_join_35 h0 v1 v2 (0, s.2)
    )
  ))
  )) s
noncomputable def m_X1_join (h0 : Nat) (v1 : Int) (v2 : Int) (D : DT) : Option DT :=
  m_X1_join_2 h0 v1 v2 (0, D)
noncomputable def m_X2_forget (h0 : Nat) (D : DT) : Option DT :=
  sq (sF D h0 0 (-1)) (fun D2 =>
  some D2
  )
noncomputable def m_X2_isOf (h0 : Nat) (v1 : Int) (D : DT) : Option Int :=
  gd (InR (D.1 h0 0) ∧ InR v1) (if (D.1 h0 0) = v1 then (
    some 1
  ) else (
    some 0
  ))
noncomputable def m_X8_placeOf (v0 : Int) (v1 : Int) (v2 : Int) (D : DT) : Option Int :=
  some ((((v2 * 3) + v1) * 8) + v0)
noncomputable def m_X8_dotsOf (h0 : Nat) (v1 : Int) (v2 : Int) (v3 : Int) (D : DT) : Option Int :=
  (m_X8_placeOf v1 v2 v3 D).bind (fun r7 =>
  gd ((0 : Int) ≤ r7 ∧ r7 < (120 : Int)) (
  some (D.2 (h0 + 2) (Int.toNat r7))
  ))
noncomputable def m_X6_cellAt (h0 : Nat) (v1 : Int) (v2 : Int) (D : DT) : Option Int :=
  gd ((0 : Int) ≤ v1 ∧ v1 < (8 : Int)) (
  gd (InR ((D.2 (h0 + 3) (Int.toNat v1)) + v2)) (if 0 ≤ ((D.2 (h0 + 3) (Int.toNat v1)) + v2) then (
    gd (InR ((D.2 (h0 + 3) (Int.toNat v1)) + v2) ∧ InR 384) (if ((D.2 (h0 + 3) (Int.toNat v1)) + v2) < 384 then (
      gd ((0 : Int) ≤ ((D.2 (h0 + 3) (Int.toNat v1)) + v2) ∧ ((D.2 (h0 + 3) (Int.toNat v1)) + v2) < (384 : Int)) (
      some (D.2 (h0 + 2) (Int.toNat ((D.2 (h0 + 3) (Int.toNat v1)) + v2)))
      )
    ) else (
      some (-1)
    ))
  ) else (
    some (-1)
  ))
  )
noncomputable def m_X2_stand_63 (h0 : Nat) (h2 : Nat) (h3 : Nat) (v1 : Int) (v4 : Int) (v5 : Int) (v6 : Int) (v7 : Int) (v8 : Int) (s : (Int × DT)) : Option DT := loopF (fun s =>
  gd (InR s.1 ∧ InR v8) (if s.1 < v8 then (
    gd (InR s.1 ∧ InR v7) (if s.1 < v7 then (
      gd ((0 : Int) ≤ ((s.1 * v1) + v5) ∧ ((s.1 * v1) + v5) ≤ (2147483647 : Int) ∧ (0 : Int) < v6 ∧ v6 ≤ (2147483647 : Int)) (
      (m_X6_cellAt h3 v4 (((s.1 * v1) + v5) % v6) s.2).bind (fun r90 =>
      gd (InR r90 ∧ InR (-1)) (if r90 = (-1) then (
        some (.inl ((s.1 + 1), s.2))
      ) else (
        gd ((0 : Int) ≤ v7 ∧ v7 ≤ (2147483647 : Int) ∧ (0 : Int) < v8 ∧ v8 ≤ (2147483647 : Int)) (
        gd ((0 : Int) ≤ v7 ∧ v7 ≤ (2147483647 : Int) ∧ (0 : Int) < v8 ∧ v8 ≤ (2147483647 : Int)) (
        gd (InR s.1 ∧ InR (v7 % v8)) (if s.1 < (v7 % v8) then (
          gd ((0 : Int) ≤ ((v5 * 384) + r90) ∧ ((v5 * 384) + r90) < (1152 : Int)) (sq (sA s.2 (h0 + 1) (Int.toNat ((v5 * 384) + r90)) ((v7 / v8) + 1)) (fun D135 =>
          some (.inl ((s.1 + 1), D135))
          ))
        ) else (
          gd ((0 : Int) ≤ ((v5 * 384) + r90) ∧ ((v5 * 384) + r90) < (1152 : Int)) (sq (sA s.2 (h0 + 1) (Int.toNat ((v5 * 384) + r90)) ((v7 / v8) + 0)) (fun D135 =>
          some (.inl ((s.1 + 1), D135))
          ))
        ))
        ))
      ))
      ))
    ) else (
      done (
      some s.2
      )
    ))
  ) else (
    done (
    some s.2
    )
  ))) s
noncomputable def m_X2_stand (h0 : Nat) (v1 : Int) (h2 : Nat) (h3 : Nat) (v4 : Int) (v5 : Int) (D : DT) : Option DT :=
  gd ((0 : Int) ≤ v4 ∧ v4 < (8 : Int)) (
  gd (InR (D.2 (h2 + 1) (Int.toNat v4)) ∧ InR 1) (if 1 ≤ (D.2 (h2 + 1) (Int.toNat v4)) then (
    gd (InR v1 ∧ InR 1) (if v1 < 1 then (
      some D
    ) else (
      (m_X8_dotsOf h2 v4 v5 (D.1 h0 0) D).bind (fun r30 =>
      gd ((0 : Int) ≤ (D.2 (h2 + 1) (Int.toNat v4)) ∧ (D.2 (h2 + 1) (Int.toNat v4)) ≤ (2147483647 : Int) ∧ (0 : Int) < v1 ∧ v1 ≤ (2147483647 : Int)) (
      gd (InR ((D.2 (h2 + 1) (Int.toNat v4)) % v1)) (if ((D.2 (h2 + 1) (Int.toNat v4)) % v1) = 0 then (
        gd ((0 : Int) ≤ (D.2 (h2 + 1) (Int.toNat v4)) ∧ (D.2 (h2 + 1) (Int.toNat v4)) ≤ (2147483647 : Int) ∧ (0 : Int) < v1 ∧ v1 ≤ (2147483647 : Int)) (
        gd (InR ((D.2 (h2 + 1) (Int.toNat v4)) / v1) ∧ InR 1) (if ((D.2 (h2 + 1) (Int.toNat v4)) / v1) < 1 then (
          some D
        ) else (
          m_X2_stand_63 h0 h2 h3 v1 v4 v5 (D.2 (h2 + 1) (Int.toNat v4)) r30 ((D.2 (h2 + 1) (Int.toNat v4)) / v1) (0, D)
        ))
        )
      ) else (
        gd (InR (D.2 (h2 + 1) (Int.toNat v4)) ∧ InR 1) (if (D.2 (h2 + 1) (Int.toNat v4)) < 1 then (
          some D
        ) else (
          m_X2_stand_63 h0 h2 h3 v1 v4 v5 (D.2 (h2 + 1) (Int.toNat v4)) r30 (D.2 (h2 + 1) (Int.toNat v4)) (0, D)
        ))
      ))
      ))
    ))
  ) else (
    some D
  ))
  )
noncomputable def m_X2_addUp_19 (h0 : Nat) (v1 : Int) (D : DT) (s : (Int × Int)) : Option ((Int × DT) ⊕ DT) := loopF (fun s =>
  gd (InR s.2 ∧ InR 3) (if s.2 < 3 then (
    gd ((0 : Int) ≤ ((s.2 * 384) + v1) ∧ ((s.2 * 384) + v1) < (1152 : Int)) (
    some (.inl ((s.1 + (D.2 (h0 + 1) (Int.toNat ((s.2 * 384) + v1)))), (s.2 + 1)))
    )
  ) else (
    done (
    gd ((0 : Int) ≤ v1 ∧ v1 < (384 : Int)) (sq (sA D (h0 + 2) (Int.toNat v1) s.1) (fun D51 =>
    gd (InR s.1) (if 0 < s.1 then (
      gd ((0 : Int) ≤ (D51.1 h0 5) ∧ (D51.1 h0 5) < (384 : Int)) (sq (sA D51 (h0 + 3) (Int.toNat (D51.1 h0 5)) v1) (fun D65 =>
      sq (sF D65 h0 5 ((D65.1 h0 5) + 1)) (fun D73 =>
      some (.inl ((v1 + 1), D73))
      )))
    ) else (
      some (.inl ((v1 + 1), D51))
    ))
    ))
    )
  ))) s
noncomputable def m_X2_addUp_7 (h0 : Nat) (s : (Int × DT)) : Option DT := loopF (fun s =>
  gd (InR s.1 ∧ InR (s.2.1 h0 1)) (if s.1 < (s.2.1 h0 1) then (
    m_X2_addUp_19 h0 s.1 s.2 (0, 0)
  ) else (
    done (
    some s.2
    )
  ))) s
noncomputable def m_X2_addUp (h0 : Nat) (D : DT) : Option DT :=
  sq (sF D h0 5 0) (fun D2 =>
  m_X2_addUp_7 h0 (0, D2)
  )
noncomputable def m_X2_gather_37 (h0 : Nat) (h1 : Nat) (h2 : Nat) (h3 : Nat) (v5 : Int) (s : (Int × DT)) : Option ((Int × DT) ⊕ DT) := loopF (fun s =>
  gd (InR s.1 ∧ InR (s.2.1 h1 3)) (if s.1 < (s.2.1 h1 3) then (
    (m_X2_stand h0 (s.2.1 h1 3) h2 h3 v5 s.1 s.2).bind (fun D57 =>
    some (.inl ((s.1 + 1), D57))
    )
  ) else (
    done (
    some (.inl ((v5 + 1), s.2))
    )
  ))) s
noncomputable def m_X2_gather_25 (h0 : Nat) (h1 : Nat) (h2 : Nat) (h3 : Nat) (s : (Int × DT)) : Option DT := loopF (fun s =>
  gd (InR s.1 ∧ InR (s.2.1 h1 2)) (if s.1 < (s.2.1 h1 2) then (
    m_X2_gather_37 h0 h1 h2 h3 s.1 (0, s.2)
  ) else (
    done (
    (m_X2_addUp h0 s.2).bind (fun D73 =>
    some D73
    )
    )
  ))) s
noncomputable def m_X2_gather (h0 : Nat) (h1 : Nat) (h2 : Nat) (h3 : Nat) (v4 : Int) (D : DT) : Option DT :=
  sq (sF D h0 0 v4) (fun D3 =>
  (m_X1_cells h1 D3).bind (fun r8 =>
  sq (sF D3 h0 1 r8) (fun D11 =>
  sq (sFill D11 (h0 + 1) 1152 0) (fun D19 =>
  m_X2_gather_25 h0 h1 h2 h3 (0, D19)
  ))))
noncomputable def m_X2_weightOf (h0 : Nat) (v1 : Int) (v2 : Int) (D : DT) : Option Int :=
  gd (InR v2 ∧ InR (-1)) (if v2 = (-1) then (
    gd ((0 : Int) ≤ v1 ∧ v1 < (384 : Int)) (
    some (D.2 (h0 + 2) (Int.toNat v1))
    )
  ) else (
    gd ((0 : Int) ≤ ((v2 * 384) + v1) ∧ ((v2 * 384) + v1) < (1152 : Int)) (
    some (D.2 (h0 + 1) (Int.toNat ((v2 * 384) + v1)))
    )
  ))
noncomputable def m_X2_moreThan_17 (h0 : Nat) (h1 : Nat) (h2 : Nat) (v4 : Int) (D : DT) (s : (Int × Int)) : Option ((Int × Int) ⊕ Int) := loopF (fun s =>
  (m_X1_cells h2 D).bind (fun r20 =>
  gd (InR s.2 ∧ InR r20) (if s.2 < r20 then (
    (m_X2_weightOf h0 s.2 v4 D).bind (fun r33 =>
    (m_X2_weightOf h1 s.2 v4 D).bind (fun r41 =>
    gd (InR 0 ∧ InR (r33 - r41)) (
    some (.inl ((s.1 + (max 0 (r33 - r41))), (s.2 + 1)))
    )))
  ) else (
    done (
    some (.inl (s.1, (v4 + 1)))
    )
  ))
  )) s
noncomputable def m_X2_moreThan_5 (h0 : Nat) (h1 : Nat) (h2 : Nat) (D : DT) (s : (Int × Int)) : Option Int := loopF (fun s =>
  gd (InR s.2 ∧ InR (D.1 h2 3)) (if s.2 < (D.1 h2 3) then (
    m_X2_moreThan_17 h0 h1 h2 s.2 D (s.1, 0)
  ) else (
    done (
    some s.1
    )
  ))) s
noncomputable def m_X2_moreThan (h0 : Nat) (h1 : Nat) (h2 : Nat) (D : DT) : Option Int :=
  m_X2_moreThan_5 h0 h1 h2 D (0, 0)
noncomputable def m_X2_leastGap_22 (h0 : Nat) (h1 : Nat) (v3 : Int) (D : DT) (s : (Int × Int)) : Option ((Int × Int) ⊕ Int) := loopF (fun s =>
  gd (InR s.2 ∧ InR (D.1 h0 5)) (if s.2 < (D.1 h0 5) then (
    gd ((0 : Int) ≤ v3 ∧ v3 < (384 : Int)) (
    gd ((0 : Int) ≤ s.2 ∧ s.2 < (384 : Int)) (
    (m_X1_far h1 (D.2 (h0 + 3) (Int.toNat v3)) (D.2 (h0 + 3) (Int.toNat s.2)) D).bind (fun r45 =>
    gd (InR s.1 ∧ InR (-1)) (if s.1 = (-1) then (
      some (.inl (r45, (s.2 + 1)))
    ) else (
      gd (InR r45 ∧ InR s.1) (if r45 < s.1 then (
        some (.inl (r45, (s.2 + 1)))
      ) else (
        some (.inl (s.1, (s.2 + 1)))
      ))
    ))
    )))
  ) else (
    done (
    some (.inl (s.1, (v3 + 1)))
    )
  ))) s
noncomputable def m_X2_leastGap_4 (h0 : Nat) (h1 : Nat) (D : DT) (s : (Int × Int)) : Option Int := loopF (fun s =>
  gd (InR s.2 ∧ InR (D.1 h0 5)) (if s.2 < (D.1 h0 5) then (
    gd (InR s.1 ∧ InR 1) (if s.1 = 1 then (
      done (
      some s.1
      )
    ) else (
      m_X2_leastGap_22 h0 h1 s.2 D (s.1, (s.2 + 1))
    ))
  ) else (
    done (
    some s.1
    )
  ))) s
noncomputable def m_X2_leastGap (h0 : Nat) (h1 : Nat) (D : DT) : Option Int :=
  m_X2_leastGap_4 h0 h1 D ((-1), 0)
noncomputable def m_X2_sumWithin_6 (h0 : Nat) (h1 : Nat) (v2 : Int) (v3 : Int) (D : DT) (s : (Int × Int)) : Option Int := loopF (fun s =>
  gd (InR s.2 ∧ InR (D.1 h0 5)) (if s.2 < (D.1 h0 5) then (
    gd ((0 : Int) ≤ s.2 ∧ s.2 < (384 : Int)) (
    (m_X1_far h1 v2 (D.2 (h0 + 3) (Int.toNat s.2)) D).bind (fun r24 =>
    gd (InR r24 ∧ InR v3) (if r24 ≤ v3 then (
      gd ((0 : Int) ≤ s.2 ∧ s.2 < (384 : Int)) (
      gd ((0 : Int) ≤ (D.2 (h0 + 3) (Int.toNat s.2)) ∧ (D.2 (h0 + 3) (Int.toNat s.2)) < (384 : Int)) (
      some (.inl ((s.1 + (D.2 (h0 + 2) (Int.toNat (D.2 (h0 + 3) (Int.toNat s.2))))), (s.2 + 1)))
      ))
    ) else (
      some (.inl (s.1, (s.2 + 1)))
    ))
    ))
  ) else (
    done (
    some s.1
    )
  ))) s
noncomputable def m_X2_sumWithin (h0 : Nat) (h1 : Nat) (v2 : Int) (v3 : Int) (D : DT) : Option Int :=
  m_X2_sumWithin_6 h0 h1 v2 v3 D (0, 0)
noncomputable def m_X2_nextSpot_8 (h0 : Nat) (h1 : Nat) (v2 : Int) (D : DT) (s : (Int × Int × Int)) : Option Int := loopF (fun s =>
  gd (InR s.2.2 ∧ InR (D.1 h0 5)) (if s.2.2 < (D.1 h0 5) then (
    gd ((0 : Int) ≤ s.2.2 ∧ s.2.2 < (384 : Int)) (
    (m_X1_far h1 v2 (D.2 (h0 + 3) (Int.toNat s.2.2)) D).bind (fun r26 =>
    gd (InR s.1 ∧ InR (-1)) (if s.1 = (-1) then (
      gd ((0 : Int) ≤ s.2.2 ∧ s.2.2 < (384 : Int)) (
      some (.inl ((D.2 (h0 + 3) (Int.toNat s.2.2)), r26, (s.2.2 + 1)))
      )
    ) else (
      gd (InR r26 ∧ InR s.2.1) (if r26 < s.2.1 then (
        gd ((0 : Int) ≤ s.2.2 ∧ s.2.2 < (384 : Int)) (
        some (.inl ((D.2 (h0 + 3) (Int.toNat s.2.2)), r26, (s.2.2 + 1)))
        )
      ) else (
        some (.inl (s.1, s.2.1, (s.2.2 + 1)))
      ))
    ))
    ))
  ) else (
    done (
    some s.1
    )
  ))) s
noncomputable def m_X2_nextSpot (h0 : Nat) (h1 : Nat) (v2 : Int) (D : DT) : Option Int :=
  m_X2_nextSpot_8 h0 h1 v2 D ((-1), 0, 0)
noncomputable def m_X2_farToSea_5 (h0 : Nat) (h1 : Nat) (v2 : Int) (D : DT) (s : (Int × Int)) : Option Int := loopF (fun s =>
  gd (InR s.2 ∧ InR (D.1 h0 1)) (if s.2 < (D.1 h0 1) then (
    gd ((0 : Int) ≤ s.2 ∧ s.2 < (384 : Int)) (
    gd (InR (D.2 (h1 + 2) (Int.toNat s.2))) (if (D.2 (h1 + 2) (Int.toNat s.2)) = 0 then (
      some (.inl (s.1, (s.2 + 1)))
    ) else (
      (m_X1_far h1 v2 s.2 D).bind (fun r28 =>
      gd (InR s.1 ∧ InR (-1)) (if s.1 = (-1) then (
        some (.inl (r28, (s.2 + 1)))
      ) else (
        gd (InR r28 ∧ InR s.1) (if r28 < s.1 then (
          some (.inl (r28, (s.2 + 1)))
        ) else (
          some (.inl (s.1, (s.2 + 1)))
        ))
      ))
      )
    ))
    )
  ) else (
    done (
    some s.1
    )
  ))) s
noncomputable def m_X2_farToSea (h0 : Nat) (h1 : Nat) (v2 : Int) (D : DT) : Option Int :=
  m_X2_farToSea_5 h0 h1 v2 D ((-1), 0)
noncomputable def m_X2_spotsInLine_60 (h0 : Nat) (h1 : Nat) (v2 : Int) (v3 : Int) (v4 : Int) (x0 : Int) (D : DT) : Option ((Int × Int) ⊕ Int) :=
  gd (InR x0) (if x0 = 0 then (
    some (.inl ((v3 + 0), (v4 + 1)))
  ) else (
    some (.inl ((v3 + 1), (v4 + 1)))
  ))
noncomputable def m_X2_spotsInLine_5 (h0 : Nat) (h1 : Nat) (v2 : Int) (D : DT) (s : (Int × Int)) : Option Int := loopF (fun s =>
  gd (InR s.2 ∧ InR (D.1 h0 5)) (if s.2 < (D.1 h0 5) then (
    gd ((0 : Int) ≤ s.2 ∧ s.2 < (384 : Int)) (
    gd ((0 : Int) ≤ (D.2 (h0 + 3) (Int.toNat s.2)) ∧ (D.2 (h0 + 3) (Int.toNat s.2)) < (384 : Int)) (
    gd ((0 : Int) ≤ v2 ∧ v2 < (384 : Int)) (
    gd (InR (D.2 (h1 + 4) (Int.toNat (D.2 (h0 + 3) (Int.toNat s.2)))) ∧ InR (D.2 (h1 + 4) (Int.toNat v2))) (if (D.2 (h1 + 4) (Int.toNat (D.2 (h0 + 3) (Int.toNat s.2)))) = (D.2 (h1 + 4) (Int.toNat v2)) then (
      m_X2_spotsInLine_60 h0 h1 v2 s.1 s.2 1 D
    ) else (
      gd ((0 : Int) ≤ (D.2 (h0 + 3) (Int.toNat s.2)) ∧ (D.2 (h0 + 3) (Int.toNat s.2)) < (384 : Int)) (
      gd ((0 : Int) ≤ v2 ∧ v2 < (384 : Int)) (
      gd (InR (D.2 (h1 + 3) (Int.toNat (D.2 (h0 + 3) (Int.toNat s.2)))) ∧ InR (D.2 (h1 + 3) (Int.toNat v2))) (if (D.2 (h1 + 3) (Int.toNat (D.2 (h0 + 3) (Int.toNat s.2)))) = (D.2 (h1 + 3) (Int.toNat v2)) then (
        m_X2_spotsInLine_60 h0 h1 v2 s.1 s.2 1 D
      ) else (
        m_X2_spotsInLine_60 h0 h1 v2 s.1 s.2 0 D
      ))
      ))
    ))
    )))
  ) else (
    done (
    some s.1
    )
  ))) s
noncomputable def m_X2_spotsInLine (h0 : Nat) (h1 : Nat) (v2 : Int) (D : DT) : Option Int :=
  m_X2_spotsInLine_5 h0 h1 v2 D (0, 0)
noncomputable def m_X2_gauge (h0 : Nat) (h1 : Nat) (v2 : Int) (v3 : Int) (v4 : Int) (D : DT) : Option Int :=
  gd (InR v3) (
  if v3 = 0 then (
    gd ((0 : Int) ≤ v2 ∧ v2 < (384 : Int)) (
    some (D.2 (h0 + 2) (Int.toNat v2))
    )
  ) else 
  if v3 = 1 then (
    (m_X2_sumWithin h0 h1 v2 v4 D).bind (fun r44 =>
    some r44
    )
  ) else 
  if v3 = 2 then (
    gd (InR (D.1 h0 5)) (if (D.1 h0 5) = 0 then (
      some (-1)
    ) else (
      (m_X2_nextSpot h0 h1 v2 D).bind (fun r64 =>
      (m_X1_far h1 v2 r64 D).bind (fun r67 =>
      some r67
      ))
    ))
  ) else 
  if v3 = 3 then (
    (m_X2_farToSea h0 h1 v2 D).bind (fun r74 =>
    some r74
    )
  ) else 
  (
    (m_X2_spotsInLine h0 h1 v2 D).bind (fun r81 =>
    some r81
    )
  ))
noncomputable def m_X2_topCell_9 (h0 : Nat) (h1 : Nat) (v2 : Int) (v3 : Int) (D : DT) (s : (Int × Int × Int)) : Option Int := loopF (fun s =>
  gd (InR s.2.2 ∧ InR (D.1 h0 1)) (if s.2.2 < (D.1 h0 1) then (
    (m_X1_isLand h1 s.2.2 D).bind (fun r21 =>
    gd (InR r21) (if r21 = 0 then (
      some (.inl (s.1, s.2.1, (s.2.2 + 1)))
    ) else (
      (m_X2_gauge h0 h1 s.2.2 v2 v3 D).bind (fun r33 =>
      gd (InR s.1 ∧ InR (-1)) (if s.1 = (-1) then (
        some (.inl (s.2.2, r33, (s.2.2 + 1)))
      ) else (
        gd (InR r33 ∧ InR s.2.1) (if s.2.1 < r33 then (
          some (.inl (s.2.2, r33, (s.2.2 + 1)))
        ) else (
          some (.inl (s.1, s.2.1, (s.2.2 + 1)))
        ))
      ))
      )
    ))
    )
  ) else (
    done (
    some s.1
    )
  ))) s
noncomputable def m_X2_topCell (h0 : Nat) (h1 : Nat) (v2 : Int) (v3 : Int) (D : DT) : Option Int :=
  m_X2_topCell_9 h0 h1 v2 v3 D ((-1), 0, 0)
noncomputable def m_X2_hasNoneNearer_11 (h0 : Nat) (h1 : Nat) (v2 : Int) (v3 : Int) (v4 : Int) (D : DT) (s : Int) : Option Int := loopF (fun s =>
  gd (InR s ∧ InR (D.1 h0 5)) (if s < (D.1 h0 5) then (
    gd ((0 : Int) ≤ s ∧ s < (384 : Int)) (
    (m_X1_far h1 v2 (D.2 (h0 + 3) (Int.toNat s)) D).bind (fun r29 =>
    gd (InR r29 ∧ InR v4) (if v4 ≤ r29 then (
      gd (InR r29 ∧ InR v4) (if r29 = v4 then (
        gd ((0 : Int) ≤ s ∧ s < (384 : Int)) (
        gd (InR (D.2 (h0 + 3) (Int.toNat s)) ∧ InR v3) (if (D.2 (h0 + 3) (Int.toNat s)) < v3 then (
          done (
          some 0
          )
        ) else (
          some (.inl (s + 1))
        ))
        )
      ) else (
        some (.inl (s + 1))
      ))
    ) else (
      done (
      some 0
      )
    ))
    ))
  ) else (
    done (
    some 1
    )
  ))) s
noncomputable def m_X2_hasNoneNearer (h0 : Nat) (h1 : Nat) (v2 : Int) (v3 : Int) (D : DT) : Option Int :=
  (m_X1_far h1 v2 v3 D).bind (fun r3 =>
  m_X2_hasNoneNearer_11 h0 h1 v2 v3 r3 D 0
  )
noncomputable def m_X2_clientsOf_5 (h0 : Nat) (h1 : Nat) (v2 : Int) (D : DT) (s : (Int × Int)) : Option Int := loopF (fun s =>
  gd (InR s.2 ∧ InR (D.1 h0 1)) (if s.2 < (D.1 h0 1) then (
    gd ((0 : Int) ≤ v2 ∧ v2 < (384 : Int)) (
    gd (InR (D.2 (h0 + 2) (Int.toNat v2))) (if 0 < (D.2 (h0 + 2) (Int.toNat v2)) then (
      (m_X1_isLand h1 s.2 D).bind (fun r26 =>
      gd (InR r26) (if r26 = 0 then (
        some (.inl (s.1, (s.2 + 1)))
      ) else (
        (m_X2_hasNoneNearer h0 h1 s.2 v2 D).bind (fun r37 =>
        gd (InR r37) (if r37 = 0 then (
          some (.inl (s.1, (s.2 + 1)))
        ) else (
          some (.inl ((s.1 + 1), (s.2 + 1)))
        ))
        )
      ))
      )
    ) else (
      done (
      some s.1
      )
    ))
    )
  ) else (
    done (
    some s.1
    )
  ))) s
noncomputable def m_X2_clientsOf (h0 : Nat) (h1 : Nat) (v2 : Int) (D : DT) : Option Int :=
  m_X2_clientsOf_5 h0 h1 v2 D (0, 0)
noncomputable def m_X2_centralCell_65 (h0 : Nat) (h1 : Nat) (D : DT) (s : (Int × Int)) : Option (Int × DT) := loopF (fun s =>
  gd (InR s.2 ∧ InR (D.1 h0 1)) (if s.2 < (D.1 h0 1) then (
    (m_X0_pullFrom (h0 + 4) h1 s.2 D).bind (fun r81 =>
    (m_X0_pullFrom (h0 + 4) h1 s.1 D).bind (fun r90 =>
    gd (InL r81 ∧ InL r90) (if r81 < r90 then (
      some (.inl (s.2, (s.2 + 1)))
    ) else (
      some (.inl (s.1, (s.2 + 1)))
    ))
    ))
  ) else (
    done (
    some (s.1, D)
    )
  ))) s
noncomputable def m_X2_centralCell_9 (h0 : Nat) (h1 : Nat) (v2 : Int) (s : (Int × DT)) : Option (Int × DT) := loopF (fun s =>
  gd (InR s.1 ∧ InR (s.2.1 h0 5)) (if s.1 < (s.2.1 h0 5) then (
    gd ((0 : Int) ≤ s.1 ∧ s.1 < (384 : Int)) (
    gd ((0 : Int) ≤ s.1 ∧ s.1 < (384 : Int)) (
    (m_X2_weightOf h0 (s.2.2 (h0 + 3) (Int.toNat s.1)) v2 s.2).bind (fun r36 =>
    (m_X0_add (h0 + 4) h1 (s.2.2 (h0 + 3) (Int.toNat s.1)) r36 s.2).bind (fun D39 =>
    some (.inl ((s.1 + 1), D39))
    ))))
  ) else (
    done (
    (m_X0_isEmpty (h0 + 4) s.2).bind (fun r52 =>
    gd (InR r52) (if r52 = 0 then (
      m_X2_centralCell_65 h0 h1 s.2 (0, 1)
    ) else (
      some ((-1), s.2)
    ))
    )
    )
  ))) s
noncomputable def m_X2_centralCell (h0 : Nat) (h1 : Nat) (v2 : Int) (D : DT) : Option (Int × DT) :=
  (m_X0_clear (h0 + 4) D).bind (fun D4 =>
  m_X2_centralCell_9 h0 h1 v2 (0, D4)
  )
noncomputable def m_X2_sumOfRow_5 (h0 : Nat) (h1 : Nat) (v2 : Int) (D : DT) (s : (Int × Int)) : Option Int := loopF (fun s =>
  gd (InR s.2 ∧ InR (D.1 h1 0)) (if s.2 < (D.1 h1 0) then (
    gd ((0 : Int) ≤ ((v2 * (D.1 h1 0)) + s.2) ∧ ((v2 * (D.1 h1 0)) + s.2) < (384 : Int)) (
    some (.inl ((s.1 + (D.2 (h0 + 2) (Int.toNat ((v2 * (D.1 h1 0)) + s.2)))), (s.2 + 1)))
    )
  ) else (
    done (
    some s.1
    )
  ))) s
noncomputable def m_X2_sumOfRow (h0 : Nat) (h1 : Nat) (v2 : Int) (D : DT) : Option Int :=
  m_X2_sumOfRow_5 h0 h1 v2 D (0, 0)
noncomputable def m_X2_sumOfColumn_5 (h0 : Nat) (h1 : Nat) (v2 : Int) (D : DT) (s : (Int × Int)) : Option Int := loopF (fun s =>
  gd (InR s.2 ∧ InR (D.1 h1 1)) (if s.2 < (D.1 h1 1) then (
    gd ((0 : Int) ≤ ((s.2 * (D.1 h1 0)) + v2) ∧ ((s.2 * (D.1 h1 0)) + v2) < (384 : Int)) (
    some (.inl ((s.1 + (D.2 (h0 + 2) (Int.toNat ((s.2 * (D.1 h1 0)) + v2)))), (s.2 + 1)))
    )
  ) else (
    done (
    some s.1
    )
  ))) s
noncomputable def m_X2_sumOfColumn (h0 : Nat) (h1 : Nat) (v2 : Int) (D : DT) : Option Int :=
  m_X2_sumOfColumn_5 h0 h1 v2 D (0, 0)
noncomputable def m_X3_reach (v1 : Int) (D : DT) : Option DT :=
  gd (InR (D.1 67 3) ∧ InR 384) (if (D.1 67 3) < 384 then (
    gd ((0 : Int) ≤ v1 ∧ v1 < (384 : Int)) (sq (sA D 68 (Int.toNat v1) (D.1 67 0)) (fun D19 =>
    gd ((0 : Int) ≤ (D19.1 67 3) ∧ (D19.1 67 3) < (384 : Int)) (sq (sA D19 69 (Int.toNat (D19.1 67 3)) v1) (fun D29 =>
    sq (sF D29 67 3 ((D29.1 67 3) + 1)) (fun D37 =>
    some D37
    )))))
  ) else (
    some D
  ))
noncomputable def m_X3_fill_52 (h1 : Nat) (v2 : Int) (v4 : Int) (v5 : Int) (s : (Int × DT)) : Option ((Int × DT) ⊕ DT) := loopF (fun s =>
  gd (InR s.1 ∧ InR 4) (if s.1 < 4 then (
    (m_X1_beside h1 v5 s.1 s.2).bind (fun r63 =>
    gd (InR r63 ∧ InR (-1)) (if r63 = (-1) then (
      some (.inl ((s.1 + 1), s.2))
    ) else (
      (m_X1_isLandOf h1 r63 v2 s.2).bind (fun r78 =>
      gd (InR r78) (if r78 = 0 then (
        some (.inl ((s.1 + 1), s.2))
      ) else (
        gd ((0 : Int) ≤ r63 ∧ r63 < (384 : Int)) (
        gd (InR (s.2.2 68 (Int.toNat r63)) ∧ InR (-1)) (if (s.2.2 68 (Int.toNat r63)) = (-1) then (
          (m_X3_reach r63 s.2).bind (fun D98 =>
          some (.inl ((s.1 + 1), D98))
          )
        ) else (
          some (.inl ((s.1 + 1), s.2))
        ))
        )
      ))
      )
    ))
    )
  ) else (
    done (
    some (.inl ((v4 + 1), s.2))
    )
  ))) s
noncomputable def m_X3_fill_13 (h1 : Nat) (v2 : Int) (s : (Int × DT)) : Option DT := loopF (fun s =>
  gd (InR (s.2.1 67 3)) (if 0 < (s.2.1 67 3) then (
    gd (InR s.1 ∧ InR 384) (if s.1 < 384 then (
      sq (sF s.2 67 3 ((s.2.1 67 3) - 1)) (fun D35 =>
      gd ((0 : Int) ≤ (D35.1 67 3) ∧ (D35.1 67 3) < (384 : Int)) (
      m_X3_fill_52 h1 v2 s.1 (D35.2 69 (Int.toNat (D35.1 67 3))) (0, D35)
      ))
    ) else (
      done (
      some s.2
      )
    ))
  ) else (
    done (
    some s.2
    )
  ))) s
noncomputable def m_X3_fill (h1 : Nat) (v2 : Int) (v3 : Int) (D : DT) : Option DT :=
  sq (sF D 67 3 0) (fun D2 =>
  (m_X3_reach v3 D2).bind (fun D7 =>
  m_X3_fill_13 h1 v2 (0, D7)
  ))
noncomputable def m_X3_find_15 (h1 : Nat) (v2 : Int) (s : (Int × DT)) : Option DT := loopF (fun s =>
  (m_X1_cells h1 s.2).bind (fun r17 =>
  gd (InR s.1 ∧ InR r17) (if s.1 < r17 then (
    (m_X1_isLandOf h1 s.1 v2 s.2).bind (fun r26 =>
    gd (InR r26) (if r26 = 0 then (
      some (.inl ((s.1 + 1), s.2))
    ) else (
      gd ((0 : Int) ≤ s.1 ∧ s.1 < (384 : Int)) (
      gd (InR (s.2.2 68 (Int.toNat s.1)) ∧ InR (-1)) (if (s.2.2 68 (Int.toNat s.1)) = (-1) then (
        (m_X3_fill h1 v2 s.1 s.2).bind (fun D46 =>
        sq (sF D46 67 0 ((D46.1 67 0) + 1)) (fun D56 =>
        some (.inl ((s.1 + 1), D56))
        ))
      ) else (
        some (.inl ((s.1 + 1), s.2))
      ))
      )
    ))
    )
  ) else (
    done (
    some s.2
    )
  ))
  )) s
noncomputable def m_X3_find (h1 : Nat) (v2 : Int) (D : DT) : Option DT :=
  sq (sF D 67 0 0) (fun D2 =>
  sq (sFill D2 68 384 (-1)) (fun D10 =>
  m_X3_find_15 h1 v2 (0, D10)
  ))
noncomputable def m_X4_forget (D : DT) : Option DT :=
  sq (sF D 70 5 (-1)) (fun D2 =>
  some D2
  )
noncomputable def m_X4_isOf (v1 : Int) (v2 : Int) (v3 : Int) (D : DT) : Option Int :=
  gd (InR (D.1 70 5) ∧ InR v1) (if (D.1 70 5) = v1 then (
    gd (InR (D.1 70 6) ∧ InR v2) (if (D.1 70 6) = v2 then (
      gd (InR (D.1 70 7) ∧ InR v3) (if (D.1 70 7) = v3 then (
        some 1
      ) else (
        some 0
      ))
    ) else (
      some 0
    ))
  ) else (
    some 0
  ))
noncomputable def m_X4_keepAs (v1 : Int) (v2 : Int) (v3 : Int) (D : DT) : Option DT :=
  sq (sF D 70 5 v1) (fun D2 =>
  sq (sF D2 70 6 v2) (fun D7 =>
  sq (sF D7 70 7 v3) (fun D12 =>
  some D12
  )))
noncomputable def m_X4_stopAt (v1 : Int) (D : DT) : Option Int :=
  gd (InR v1) (if 0 ≤ v1 then (
    gd (InR v1 ∧ InR (D.1 70 0)) (if v1 < (D.1 70 0) then (
      gd ((0 : Int) ≤ v1 ∧ v1 < (768 : Int)) (
      some (D.2 71 (Int.toNat v1))
      )
    ) else (
      some (-1)
    ))
  ) else (
    some (-1)
  ))
noncomputable def m_X4_isApart_3 (h1 : Nat) (v2 : Int) (v3 : Int) (D : DT) (s : Int) : Option Int := loopF (fun s =>
  gd (InR s ∧ InR (D.1 70 0)) (if s < (D.1 70 0) then (
    gd ((0 : Int) ≤ s ∧ s < (768 : Int)) (
    (m_X1_far h1 v2 (D.2 71 (Int.toNat s)) D).bind (fun r21 =>
    gd (InR r21 ∧ InR v3) (if r21 < v3 then (
      done (
      some 0
      )
    ) else (
      some (.inl (s + 1))
    ))
    ))
  ) else (
    done (
    some 1
    )
  ))) s
noncomputable def m_X4_isApart (h1 : Nat) (v2 : Int) (v3 : Int) (D : DT) : Option Int :=
  m_X4_isApart_3 h1 v2 v3 D 0
noncomputable def m_X4_push (v1 : Int) (D : DT) : Option DT :=
  gd (InR (D.1 70 0) ∧ InR 768) (if (D.1 70 0) < 768 then (
    gd ((0 : Int) ≤ (D.1 70 0) ∧ (D.1 70 0) < (768 : Int)) (sq (sA D 71 (Int.toNat (D.1 70 0)) v1) (fun D19 =>
    sq (sF D19 70 0 ((D19.1 70 0) + 1)) (fun D27 =>
    some D27
    )))
  ) else (
    some D
  ))
noncomputable def m_X4_keep_3 (h1 : Nat) (h2 : Nat) (v3 : Int) (s : (Int × DT)) : Option DT := loopF (fun s =>
  gd (InR s.1 ∧ InR (s.2.1 h2 5)) (if s.1 < (s.2.1 h2 5) then (
    gd ((0 : Int) ≤ s.1 ∧ s.1 < (384 : Int)) (
    (m_X4_isApart h1 (s.2.2 (h2 + 3) (Int.toNat s.1)) v3 s.2).bind (fun r22 =>
    gd (InR r22) (if r22 = 0 then (
      some (.inl ((s.1 + 1), s.2))
    ) else (
      gd ((0 : Int) ≤ s.1 ∧ s.1 < (384 : Int)) (
      (m_X4_push (s.2.2 (h2 + 3) (Int.toNat s.1)) s.2).bind (fun D36 =>
      some (.inl ((s.1 + 1), D36))
      ))
    ))
    ))
  ) else (
    done (
    some s.2
    )
  ))) s
noncomputable def m_X4_keep (h1 : Nat) (h2 : Nat) (v3 : Int) (D : DT) : Option DT :=
  m_X4_keep_3 h1 h2 v3 (0, D)
noncomputable def m_X4_nextAfter_11 (h1 : Nat) (v2 : Int) (s : (Int × Int × Int × Int × DT)) : Option (Int × DT) := loopF (fun s =>
  gd (InR s.2.2.2.1 ∧ InR (s.2.2.2.2.1 70 4)) (if s.2.2.2.1 < (s.2.2.2.2.1 70 4) then (
    gd ((0 : Int) ≤ s.2.2.2.1 ∧ s.2.2.2.1 < (384 : Int)) (
    gd (InR (s.2.2.2.2.2 72 (Int.toNat s.2.2.2.1)) ∧ InR v2) (if (s.2.2.2.2.2 72 (Int.toNat s.2.2.2.1)) = v2 then (
      some (.inl (s.1, s.2.1, s.2.2.1, (s.2.2.2.1 + 1), s.2.2.2.2))
    ) else (
      gd ((0 : Int) ≤ s.2.2.1 ∧ s.2.2.1 < (384 : Int)) (sq (sA s.2.2.2.2 72 (Int.toNat s.2.2.1) (s.2.2.2.2.2 72 (Int.toNat s.2.2.2.1))) (fun D43 =>
      (m_X1_far h1 (s.2.2.2.2.2 72 (Int.toNat s.2.2.2.1)) v2 D43).bind (fun r51 =>
      gd (InR s.1 ∧ InR (-1)) (if s.1 = (-1) then (
        some (.inl ((s.2.2.2.2.2 72 (Int.toNat s.2.2.2.1)), r51, (s.2.2.1 + 1), (s.2.2.2.1 + 1), D43))
      ) else (
        gd (InR r51 ∧ InR s.2.1) (if r51 < s.2.1 then (
          some (.inl ((s.2.2.2.2.2 72 (Int.toNat s.2.2.2.1)), r51, (s.2.2.1 + 1), (s.2.2.2.1 + 1), D43))
        ) else (
          some (.inl (s.1, s.2.1, (s.2.2.1 + 1), (s.2.2.2.1 + 1), D43))
        ))
      ))
      )))
    ))
    )
  ) else (
    done (
    sq (sF s.2.2.2.2 70 4 s.2.2.1) (fun D84 =>
    some (s.1, D84)
    )
    )
  ))) s
noncomputable def m_X4_nextAfter (h1 : Nat) (v2 : Int) (D : DT) : Option (Int × DT) :=
  m_X4_nextAfter_11 h1 v2 ((-1), 0, 0, 0, D)
noncomputable def m_X4_walk_46 (h1 : Nat) (h2 : Nat) (s : (Int × Int × DT)) : Option DT := loopF (fun s =>
  gd (InR s.1 ∧ InR (-1)) (if s.1 = (-1) then (
    done (
    some s.2.2
    )
  ) else (
    gd (InR s.2.1 ∧ InR 384) (if s.2.1 < 384 then (
      (m_X4_push s.1 s.2.2).bind (fun D61 =>
      bnd (m_X4_nextAfter h1 s.1 D61) (fun r67 D67 =>
      gd (InR r67 ∧ InR (-1)) (if r67 = (-1) then (
        sq (sF D67 70 1 ((D67.1 70 1) + 0)) (fun D95 =>
        some (.inl (r67, (s.2.1 + 1), D95))
        )
      ) else (
        (m_X1_far h1 s.1 r67 D67).bind (fun r91 =>
        sq (sF D67 70 1 ((D67.1 70 1) + r91)) (fun D95 =>
        some (.inl (r67, (s.2.1 + 1), D95))
        ))
      ))
      ))
    ) else (
      done (
      some s.2.2
      )
    ))
  ))) s
noncomputable def m_X4_walk (h1 : Nat) (h2 : Nat) (D : DT) : Option DT :=
  gd ((h2 + 3) ≠ 72 ∧ ((0 : Int) ≤ 0 ∧ (0 : Int) + (D.1 h2 5) ≤ (384 : Int)) ∧ ((0 : Int) ≤ 0 ∧ (0 : Int) + (D.1 h2 5) ≤ (384 : Int)) ∧ (0 : Int) ≤ (D.1 h2 5)) (sq (sCopy D (h2 + 3) (Int.toNat 0) 72 (Int.toNat 0) (Int.toNat (D.1 h2 5))) (fun D14 =>
  sq (sF D14 70 4 (D14.1 h2 5)) (fun D22 =>
  gd (InR (D22.1 70 4)) (if 0 < (D22.1 70 4) then (
    gd ((0 : Int) ≤ 0 ∧ 0 < (384 : Int)) (
    m_X4_walk_46 h1 h2 ((D22.2 72 (Int.toNat 0)), 0, D22)
    )
  ) else (
    m_X4_walk_46 h1 h2 ((-1), 0, D22)
  ))
  )))
noncomputable def m_X4_turn (h0 : Nat) (v1 : Int) (v2 : Int) (v3 : Int) (D : DT) : Option Int :=
  gd ((0 : Int) ≤ v2 ∧ v2 < (384 : Int)) (
  gd ((0 : Int) ≤ v1 ∧ v1 < (384 : Int)) (
  gd ((0 : Int) ≤ v2 ∧ v2 < (384 : Int)) (
  gd ((0 : Int) ≤ v1 ∧ v1 < (384 : Int)) (
  gd ((0 : Int) ≤ v3 ∧ v3 < (384 : Int)) (
  gd ((0 : Int) ≤ v2 ∧ v2 < (384 : Int)) (
  gd ((0 : Int) ≤ v3 ∧ v3 < (384 : Int)) (
  gd ((0 : Int) ≤ v2 ∧ v2 < (384 : Int)) (
  some ((((D.2 (h0 + 3) (Int.toNat v2)) - (D.2 (h0 + 3) (Int.toNat v1))) * ((D.2 (h0 + 4) (Int.toNat v3)) - (D.2 (h0 + 4) (Int.toNat v2)))) - (((D.2 (h0 + 4) (Int.toNat v2)) - (D.2 (h0 + 4) (Int.toNat v1))) * ((D.2 (h0 + 3) (Int.toNat v3)) - (D.2 (h0 + 3) (Int.toNat v2)))))
  ))))))))
noncomputable def m_X4_turnTo_0 (h1 : Nat) (v2 : Int) (v3 : Int) (s : DT) : Option DT := loopF (fun s =>
  gd (InR (s.1 70 0) ∧ InR v3) (if v3 < (s.1 70 0) then (
    gd (InR (s.1 70 0) ∧ InR 1) (if 1 < (s.1 70 0) then (
      gd ((0 : Int) ≤ ((s.1 70 0) - 2) ∧ ((s.1 70 0) - 2) < (768 : Int)) (
      gd ((0 : Int) ≤ ((s.1 70 0) - 1) ∧ ((s.1 70 0) - 1) < (768 : Int)) (
      (m_X4_turn h1 (s.2 71 (Int.toNat ((s.1 70 0) - 2))) (s.2 71 (Int.toNat ((s.1 70 0) - 1))) v2 s).bind (fun r40 =>
      gd (InR r40) (if r40 ≤ 0 then (
        sq (sF s 70 0 ((s.1 70 0) - 1)) (fun D53 =>
        some (.inl D53)
        )
      ) else (
        done (
        (m_X4_push v2 s).bind (fun D61 =>
        some D61
        )
        )
      ))
      )))
    ) else (
      done (
      (m_X4_push v2 s).bind (fun D61 =>
      some D61
      )
      )
    ))
  ) else (
    done (
    (m_X4_push v2 s).bind (fun D61 =>
    some D61
    )
    )
  ))) s
noncomputable def m_X4_turnTo (h1 : Nat) (v2 : Int) (v3 : Int) (D : DT) : Option DT :=
  m_X4_turnTo_0 h1 v2 v3 D
noncomputable def m_X4_wrap_41 (h1 : Nat) (h2 : Nat) (v3 : Int) (s : (Int × DT)) : Option DT := loopF (fun s =>
  gd (InR s.1) (if 0 ≤ s.1 then (
    gd ((0 : Int) ≤ s.1 ∧ s.1 < (384 : Int)) (
    (m_X4_turnTo h1 (s.2.2 (h2 + 3) (Int.toNat s.1)) v3 s.2).bind (fun D56 =>
    some (.inl ((s.1 + (-1)), D56))
    ))
  ) else (
    done (
    gd (InR (s.2.1 70 0) ∧ InR 1) (if 1 < (s.2.1 70 0) then (
      sq (sF s.2 70 0 ((s.2.1 70 0) - 1)) (fun D80 =>
      some D80
      )
    ) else (
      some s.2
    ))
    )
  ))) s
noncomputable def m_X4_wrap_2 (h1 : Nat) (h2 : Nat) (s : (Int × DT)) : Option DT := loopF (fun s =>
  gd (InR s.1 ∧ InR (s.2.1 h2 5)) (if s.1 < (s.2.1 h2 5) then (
    gd ((0 : Int) ≤ s.1 ∧ s.1 < (384 : Int)) (
    (m_X4_turnTo h1 (s.2.2 (h2 + 3) (Int.toNat s.1)) 1 s.2).bind (fun D19 =>
    some (.inl ((s.1 + 1), D19))
    ))
  ) else (
    done (
    m_X4_wrap_41 h1 h2 (s.2.1 70 0) (((s.2.1 h2 5) - 2), s.2)
    )
  ))) s
noncomputable def m_X4_wrap (h1 : Nat) (h2 : Nat) (D : DT) : Option DT :=
  m_X4_wrap_2 h1 h2 (0, D)
noncomputable def m_X4_follow (h1 : Nat) (h2 : Nat) (v3 : Int) (v4 : Int) (D : DT) : Option DT :=
  sq (sF D 70 0 0) (fun D2 =>
  sq (sF D2 70 1 0) (fun D7 =>
  gd (InR v3) (
  if v3 = 0 then (
    (m_X4_keep h1 h2 v4 D7).bind (fun D41 =>
    some D41
    )
  ) else 
  if v3 = 1 then (
    (m_X4_walk h1 h2 D7).bind (fun D50 =>
    some D50
    )
  ) else 
  (
    (m_X4_wrap h1 h2 D7).bind (fun D59 =>
    some D59
    )
  ))
  ))
noncomputable def m_X4_doubleArea_41 (h1 : Nat) (v2 : Int) (v3 : Int) (v4 : Int) (x0 : Int) (D : DT) : Option ((Int × Int) ⊕ Int) :=
  gd ((0 : Int) ≤ x0 ∧ x0 < (768 : Int)) (
  gd ((0 : Int) ≤ v4 ∧ v4 < (384 : Int)) (
  gd ((0 : Int) ≤ (D.2 71 (Int.toNat x0)) ∧ (D.2 71 (Int.toNat x0)) < (384 : Int)) (
  gd ((0 : Int) ≤ (D.2 71 (Int.toNat x0)) ∧ (D.2 71 (Int.toNat x0)) < (384 : Int)) (
  gd ((0 : Int) ≤ v4 ∧ v4 < (384 : Int)) (
  some (.inl ((v2 + (((D.2 (h1 + 3) (Int.toNat v4)) * (D.2 (h1 + 4) (Int.toNat (D.2 71 (Int.toNat x0))))) - ((D.2 (h1 + 3) (Int.toNat (D.2 71 (Int.toNat x0)))) * (D.2 (h1 + 4) (Int.toNat v4))))), (v3 + 1)))
  )))))
noncomputable def m_X4_doubleArea_4 (h1 : Nat) (D : DT) (s : (Int × Int)) : Option Int := loopF (fun s =>
  gd (InR s.2 ∧ InR (D.1 70 0)) (if s.2 < (D.1 70 0) then (
    gd ((0 : Int) ≤ s.2 ∧ s.2 < (768 : Int)) (
    gd (InR (s.2 + 1) ∧ InR (D.1 70 0)) (if (s.2 + 1) < (D.1 70 0) then (
      m_X4_doubleArea_41 h1 s.1 s.2 (D.2 71 (Int.toNat s.2)) (s.2 + 1) D
    ) else (
      m_X4_doubleArea_41 h1 s.1 s.2 (D.2 71 (Int.toNat s.2)) 0 D
    ))
    )
  ) else (
    done (
    some s.1
    )
  ))) s
noncomputable def m_X4_doubleArea (h1 : Nat) (D : DT) : Option Int :=
  m_X4_doubleArea_4 h1 D (0, 0)
noncomputable def m_X8_countLand_10 (h0 : Nat) (h1 : Nat) (s : (Int × DT)) : Option DT := loopF (fun s =>
  (m_X1_cells h1 s.2).bind (fun r12 =>
  gd (InR s.1 ∧ InR r12) (if s.1 < r12 then (
    (m_X1_isLand h1 s.1 s.2).bind (fun r20 =>
    gd (InR r20) (if r20 = 0 then (
      some (.inl ((s.1 + 1), s.2))
    ) else (
      gd ((0 : Int) ≤ s.1 ∧ s.1 < (384 : Int)) (
      gd ((0 : Int) ≤ (s.2.2 (h1 + 1) (Int.toNat s.1)) ∧ (s.2.2 (h1 + 1) (Int.toNat s.1)) < (8 : Int)) (
      gd ((0 : Int) ≤ (s.2.2 (h1 + 1) (Int.toNat s.1)) ∧ (s.2.2 (h1 + 1) (Int.toNat s.1)) < (8 : Int)) (sq (sA s.2 (h0 + 1) (Int.toNat (s.2.2 (h1 + 1) (Int.toNat s.1))) ((s.2.2 (h0 + 1) (Int.toNat (s.2.2 (h1 + 1) (Int.toNat s.1)))) + 1)) (fun D40 =>
      some (.inl ((s.1 + 1), D40))
      ))))
    ))
    )
  ) else (
    done (
    some s.2
    )
  ))
  )) s
noncomputable def m_X8_countLand (h0 : Nat) (h1 : Nat) (D : DT) : Option DT :=
  sq (sFill D (h0 + 1) 8 0) (fun D5 =>
  m_X8_countLand_10 h0 h1 (0, D5)
  )
noncomputable def m_X8_share_66 (h0 : Nat) (h1 : Nat) (v2 : Int) (v3 : Int) (v4 : Int) (v6 : Int) (v7 : Int) (x0 : Int) (x1 : Int) (D : DT) : Option ((Int × Int × DT) ⊕ DT) :=
  gd ((0 : Int) ≤ v6 ∧ v6 < (8 : Int)) (
  gd (InR (D.2 (h0 + 1) (Int.toNat v6))) (if 0 < (D.2 (h0 + 1) (Int.toNat v6)) then (
    gd ((0 : Int) ≤ (x1 + x0) ∧ (x1 + x0) ≤ (2147483647 : Int) ∧ (0 : Int) < v4 ∧ v4 ≤ (2147483647 : Int)) (
    gd ((0 : Int) ≤ v7 ∧ v7 < (120 : Int)) (sq (sA D (h0 + 2) (Int.toNat v7) ((x1 + x0) / v4)) (fun D94 =>
    gd ((0 : Int) ≤ v7 ∧ v7 < (120 : Int)) (
    some (.inl (((x1 + x0) - ((D94.2 (h0 + 2) (Int.toNat v7)) * v4)), (v6 + 1), D94))
    )))
    )
  ) else (
    gd ((0 : Int) ≤ v7 ∧ v7 < (120 : Int)) (sq (sA D (h0 + 2) (Int.toNat v7) 0) (fun D94 =>
    gd ((0 : Int) ≤ v7 ∧ v7 < (120 : Int)) (
    some (.inl (((x1 + x0) - ((D94.2 (h0 + 2) (Int.toNat v7)) * v4)), (v6 + 1), D94))
    )))
  ))
  )
noncomputable def m_X8_share_13 (h0 : Nat) (h1 : Nat) (v2 : Int) (v3 : Int) (v4 : Int) (s : (Int × Int × DT)) : Option DT := loopF (fun s =>
  gd (InR s.2.1 ∧ InR (s.2.2.1 h0 2)) (if s.2.1 < (s.2.2.1 h0 2) then (
    (m_X8_placeOf s.2.1 v2 v3 s.2.2).bind (fun r26 =>
    gd ((0 : Int) ≤ r26 ∧ r26 < (120 : Int)) (sq (sA s.2.2 (h0 + 3) (Int.toNat r26) s.1) (fun D39 =>
    gd (InR v3) (if v3 = 0 then (
      (m_X1_livingIn h1 s.2.1 v2 D39).bind (fun r50 =>
      m_X8_share_66 h0 h1 v2 v3 v4 s.2.1 r26 r50 s.1 D39
      )
    ) else (
      (m_X8_dotsOf h0 s.2.1 v2 (v3 - 1) D39).bind (fun r63 =>
      m_X8_share_66 h0 h1 v2 v3 v4 s.2.1 r26 r63 s.1 D39
      )
    ))
    )))
  ) else (
    done (
    gd ((0 : Int) ≤ ((v3 * 3) + v2) ∧ ((v3 * 3) + v2) < (15 : Int)) (sq (sA s.2.2 (h0 + 4) (Int.toNat ((v3 * 3) + v2)) s.1) (fun D127 =>
    some D127
    ))
    )
  ))) s
noncomputable def m_X8_share (h0 : Nat) (h1 : Nat) (v2 : Int) (v3 : Int) (v4 : Int) (D : DT) : Option DT :=
  gd (InR v4 ∧ InR 1) (if v4 < 1 then (
    some D
  ) else (
    m_X8_share_13 h0 h1 v2 v3 v4 (0, 0, D)
  ))
noncomputable def m_X8_reckon_36 (h0 : Nat) (h1 : Nat) (v2 : Int) (v3 : Int) (v4 : Int) (s : (Int × DT)) : Option ((Int × DT) ⊕ DT) := loopF (fun s =>
  gd (InR s.1 ∧ InR 5) (if s.1 < 5 then (
    gd (InR s.1) (if s.1 = 0 then (
      (m_X8_share h0 h1 v4 s.1 v2 s.2).bind (fun D58 =>
      some (.inl ((s.1 + 1), D58))
      )
    ) else (
      (m_X8_share h0 h1 v4 s.1 v3 s.2).bind (fun D58 =>
      some (.inl ((s.1 + 1), D58))
      )
    ))
  ) else (
    done (
    some (.inl ((v4 + 1), s.2))
    )
  ))) s
noncomputable def m_X8_reckon_24 (h0 : Nat) (h1 : Nat) (v2 : Int) (v3 : Int) (s : (Int × DT)) : Option DT := loopF (fun s =>
  gd (InR s.1 ∧ InR (s.2.1 h0 3)) (if s.1 < (s.2.1 h0 3) then (
    m_X8_reckon_36 h0 h1 v2 v3 s.1 (0, s.2)
  ) else (
    done (
    sq (sF s.2 h0 0 1) (fun D75 =>
    some D75
    )
    )
  ))) s
noncomputable def m_X8_reckon (h0 : Nat) (h1 : Nat) (v2 : Int) (v3 : Int) (D : DT) : Option DT :=
  sq (sF D h0 2 (D.1 h1 2)) (fun D5 =>
  sq (sF D5 h0 3 (D5.1 h1 3)) (fun D13 =>
  (m_X8_countLand h0 h1 D13).bind (fun D18 =>
  m_X8_reckon_24 h0 h1 v2 v3 (0, D18)
  )))
noncomputable def m_X5_tallied (h0 : Nat) (D : DT) : Option DT :=
  gd (InR (D.1 (h0 + 9) 0)) (if (D.1 (h0 + 9) 0) = 0 then (
    (m_X8_reckon (h0 + 9) (h0 + 1) (D.1 h0 1) (D.1 h0 2) D).bind (fun D26 =>
    some D26
    )
  ) else (
    some D
  ))
noncomputable def m_X6_gather_14 (h0 : Nat) (h1 : Nat) (v2 : Int) (s : (Int × DT)) : Option DT := loopF (fun s =>
  (m_X1_cells h1 s.2).bind (fun r16 =>
  gd (InR s.1 ∧ InR r16) (if s.1 < r16 then (
    (m_X1_isLandOf h1 s.1 v2 s.2).bind (fun r25 =>
    gd (InR r25) (if r25 = 0 then (
      some (.inl ((s.1 + 1), s.2))
    ) else (
      gd ((0 : Int) ≤ (s.2.1 h0 7) ∧ (s.2.1 h0 7) < (384 : Int)) (sq (sA s.2 (h0 + 5) (Int.toNat (s.2.1 h0 7)) s.1) (fun D40 =>
      sq (sF D40 h0 7 ((D40.1 h0 7) + 1)) (fun D48 =>
      gd ((0 : Int) ≤ s.1 ∧ s.1 < (384 : Int)) (sq (sA D48 (h0 + 6) (Int.toNat s.1) 1000) (fun D59 =>
      (m_X0_add (h0 + 7) h1 s.1 1 D59).bind (fun D67 =>
      some (.inl ((s.1 + 1), D67))
      ))))))
    ))
    )
  ) else (
    done (
    some s.2
    )
  ))
  )) s
noncomputable def m_X6_gather (h0 : Nat) (h1 : Nat) (v2 : Int) (D : DT) : Option DT :=
  sq (sF D h0 7 0) (fun D2 =>
  (m_X0_clear (h0 + 7) D2).bind (fun D9 =>
  m_X6_gather_14 h0 h1 v2 (0, D9)
  ))
noncomputable def m_X6_firstOf_7 (h0 : Nat) (h1 : Nat) (D : DT) (s : (Int × Int × Int)) : Option Int := loopF (fun s =>
  gd (InR s.2.2 ∧ InR (D.1 h0 7)) (if s.2.2 < (D.1 h0 7) then (
    gd ((0 : Int) ≤ s.2.2 ∧ s.2.2 < (384 : Int)) (
    (m_X0_pullFrom (h0 + 7) h1 (D.2 (h0 + 5) (Int.toNat s.2.2)) D).bind (fun r28 =>
    gd (InR s.1 ∧ InR (-1)) (if s.1 = (-1) then (
      gd ((0 : Int) ≤ s.2.2 ∧ s.2.2 < (384 : Int)) (
      some (.inl ((D.2 (h0 + 5) (Int.toNat s.2.2)), r28, (s.2.2 + 1)))
      )
    ) else (
      gd (InL r28 ∧ InL s.2.1) (if r28 < s.2.1 then (
        gd ((0 : Int) ≤ s.2.2 ∧ s.2.2 < (384 : Int)) (
        some (.inl ((D.2 (h0 + 5) (Int.toNat s.2.2)), r28, (s.2.2 + 1)))
        )
      ) else (
        some (.inl (s.1, s.2.1, (s.2.2 + 1)))
      ))
    ))
    ))
  ) else (
    done (
    some s.1
    )
  ))) s
noncomputable def m_X6_firstOf (h0 : Nat) (h1 : Nat) (D : DT) : Option Int :=
  m_X6_firstOf_7 h0 h1 D ((-1), 0, 0)
noncomputable def m_X6_nextAfter_11 (h0 : Nat) (h1 : Nat) (v2 : Int) (s : (Int × Int × Int × Int × DT)) : Option (Int × DT) := loopF (fun s =>
  gd (InR s.2.2.2.1 ∧ InR (s.2.2.2.2.1 h0 7)) (if s.2.2.2.1 < (s.2.2.2.2.1 h0 7) then (
    gd ((0 : Int) ≤ s.2.2.2.1 ∧ s.2.2.2.1 < (384 : Int)) (
    gd (InR (s.2.2.2.2.2 (h0 + 5) (Int.toNat s.2.2.2.1)) ∧ InR v2) (if (s.2.2.2.2.2 (h0 + 5) (Int.toNat s.2.2.2.1)) = v2 then (
      some (.inl (s.1, s.2.1, s.2.2.1, (s.2.2.2.1 + 1), s.2.2.2.2))
    ) else (
      gd ((0 : Int) ≤ (s.2.2.2.2.2 (h0 + 5) (Int.toNat s.2.2.2.1)) ∧ (s.2.2.2.2.2 (h0 + 5) (Int.toNat s.2.2.2.1)) < (384 : Int)) (
      (m_X1_far h1 (s.2.2.2.2.2 (h0 + 5) (Int.toNat s.2.2.2.1)) v2 s.2.2.2.2).bind (fun r46 =>
      gd (InR (s.2.2.2.2.2 (h0 + 6) (Int.toNat (s.2.2.2.2.2 (h0 + 5) (Int.toNat s.2.2.2.1)))) ∧ InR r46) (
      gd ((0 : Int) ≤ (s.2.2.2.2.2 (h0 + 5) (Int.toNat s.2.2.2.1)) ∧ (s.2.2.2.2.2 (h0 + 5) (Int.toNat s.2.2.2.1)) < (384 : Int)) (sq (sA s.2.2.2.2 (h0 + 6) (Int.toNat (s.2.2.2.2.2 (h0 + 5) (Int.toNat s.2.2.2.1))) (min (s.2.2.2.2.2 (h0 + 6) (Int.toNat (s.2.2.2.2.2 (h0 + 5) (Int.toNat s.2.2.2.1)))) r46)) (fun D62 =>
      gd ((0 : Int) ≤ s.2.2.1 ∧ s.2.2.1 < (384 : Int)) (sq (sA D62 (h0 + 5) (Int.toNat s.2.2.1) (s.2.2.2.2.2 (h0 + 5) (Int.toNat s.2.2.2.1))) (fun D71 =>
      gd (InR (min (s.2.2.2.2.2 (h0 + 6) (Int.toNat (s.2.2.2.2.2 (h0 + 5) (Int.toNat s.2.2.2.1)))) r46) ∧ InR s.2.1) (if s.2.1 < (min (s.2.2.2.2.2 (h0 + 6) (Int.toNat (s.2.2.2.2.2 (h0 + 5) (Int.toNat s.2.2.2.1)))) r46) then (
        some (.inl ((s.2.2.2.2.2 (h0 + 5) (Int.toNat s.2.2.2.1)), (min (s.2.2.2.2.2 (h0 + 6) (Int.toNat (s.2.2.2.2.2 (h0 + 5) (Int.toNat s.2.2.2.1)))) r46), (s.2.2.1 + 1), (s.2.2.2.1 + 1), D71))
      ) else (
        some (.inl (s.1, s.2.1, (s.2.2.1 + 1), (s.2.2.2.1 + 1), D71))
      ))
      )))))))
    ))
    )
  ) else (
    done (
    sq (sF s.2.2.2.2 h0 7 s.2.2.1) (fun D98 =>
    some (s.1, D98)
    )
    )
  ))) s
noncomputable def m_X6_nextAfter (h0 : Nat) (h1 : Nat) (v2 : Int) (D : DT) : Option (Int × DT) :=
  m_X6_nextAfter_11 h0 h1 v2 ((-1), (-1), 0, 0, D)
noncomputable def m_X6_rank_15 (h0 : Nat) (h1 : Nat) (s : (Int × Int × DT)) : Option DT := loopF (fun s =>
  gd (InR s.1 ∧ InR (-1)) (if s.1 = (-1) then (
    done (
    some s.2.2
    )
  ) else (
    gd (InR s.2.1 ∧ InR 384) (if s.2.1 < 384 then (
      gd ((0 : Int) ≤ s.1 ∧ s.1 < (384 : Int)) (sq (sA s.2.2 (h0 + 1) (Int.toNat s.1) s.2.1) (fun D35 =>
      bnd (m_X6_nextAfter h0 h1 s.1 D35) (fun r42 D42 =>
      some (.inl (r42, (s.2.1 + 1), D42))
      )))
    ) else (
      done (
      some s.2.2
      )
    ))
  ))) s
noncomputable def m_X6_rank (h0 : Nat) (h1 : Nat) (v2 : Int) (D : DT) : Option DT :=
  (m_X6_gather h0 h1 v2 D).bind (fun D3 =>
  (m_X6_firstOf h0 h1 D3).bind (fun r8 =>
  m_X6_rank_15 h0 h1 (r8, 0, D3)
  ))
noncomputable def m_X6_sort_38 (h0 : Nat) (h1 : Nat) (h2 : Nat) (s : (Int × DT)) : Option DT := loopF (fun s =>
  (m_X1_cells h1 s.2).bind (fun r41 =>
  gd (InR s.1 ∧ InR r41) (if s.1 < r41 then (
    (m_X1_isLand h1 s.1 s.2).bind (fun r50 =>
    gd (InR r50) (if r50 = 0 then (
      gd ((0 : Int) ≤ s.1 ∧ s.1 < (384 : Int)) (sq (sA s.2 (h0 + 1) (Int.toNat s.1) (-1)) (fun D93 =>
      some (.inl ((s.1 + 1), D93))
      ))
    ) else (
      gd ((0 : Int) ≤ s.1 ∧ s.1 < (384 : Int)) (
      gd ((0 : Int) ≤ (s.2.2 (h1 + 1) (Int.toNat s.1)) ∧ (s.2.2 (h1 + 1) (Int.toNat s.1)) < (8 : Int)) (
      gd ((0 : Int) ≤ s.1 ∧ s.1 < (384 : Int)) (
      gd ((0 : Int) ≤ ((s.2.2 (h0 + 3) (Int.toNat (s.2.2 (h1 + 1) (Int.toNat s.1)))) + (s.2.2 (h0 + 1) (Int.toNat s.1))) ∧ ((s.2.2 (h0 + 3) (Int.toNat (s.2.2 (h1 + 1) (Int.toNat s.1)))) + (s.2.2 (h0 + 1) (Int.toNat s.1))) < (384 : Int)) (sq (sA s.2 (h0 + 2) (Int.toNat ((s.2.2 (h0 + 3) (Int.toNat (s.2.2 (h1 + 1) (Int.toNat s.1)))) + (s.2.2 (h0 + 1) (Int.toNat s.1)))) s.1) (fun D82 =>
      some (.inl ((s.1 + 1), D82))
      )))))
    ))
    )
  ) else (
    done (
    some s.2
    )
  ))
  )) s
noncomputable def m_X6_sort_5 (h0 : Nat) (h1 : Nat) (h2 : Nat) (s : (Int × Int × DT)) : Option DT := loopF (fun s =>
  gd (InR s.2.1 ∧ InR (s.2.2.1 h1 2)) (if s.2.1 < (s.2.2.1 h1 2) then (
    gd ((0 : Int) ≤ s.2.1 ∧ s.2.1 < (8 : Int)) (sq (sA s.2.2 (h0 + 3) (Int.toNat s.2.1) s.1) (fun D21 =>
    gd ((0 : Int) ≤ s.2.1 ∧ s.2.1 < (8 : Int)) (
    some (.inl ((s.1 + (D21.2 h2 (Int.toNat s.2.1))), (s.2.1 + 1), D21))
    )))
  ) else (
    done (
    m_X6_sort_38 h0 h1 h2 (0, s.2.2)
    )
  ))) s
noncomputable def m_X6_sort (h0 : Nat) (h1 : Nat) (h2 : Nat) (D : DT) : Option DT :=
  m_X6_sort_5 h0 h1 h2 (0, 0, D)
noncomputable def m_X6_renew_10 (h0 : Nat) (h1 : Nat) (h2 : Nat) (s : (Int × DT)) : Option DT := loopF (fun s =>
  gd (InR s.1 ∧ InR (s.2.1 h1 2)) (if s.1 < (s.2.1 h1 2) then (
    gd ((0 : Int) ≤ s.1 ∧ s.1 < (8 : Int)) (
    gd (InR (s.2.2 (h0 + 4) (Int.toNat s.1))) (if (s.2.2 (h0 + 4) (Int.toNat s.1)) = 0 then (
      (m_X6_rank h0 h1 s.1 s.2).bind (fun D30 =>
      gd (((0 : Int) ≤ s.1 ∧ s.1 < (8 : Int)) ∧ ((1 : Int) = 0 ∨ (1 : Int) = 1)) (sq (sA D30 (h0 + 4) (Int.toNat s.1) 1) (fun D39 =>
      some (.inl ((s.1 + 1), D39))
      )))
    ) else (
      some (.inl ((s.1 + 1), s.2))
    ))
    )
  ) else (
    done (
    (m_X6_sort h0 h1 h2 s.2).bind (fun D49 =>
    sq (sF D49 h0 4 1) (fun D54 =>
    some D54
    ))
    )
  ))) s
noncomputable def m_X6_renew (h0 : Nat) (h1 : Nat) (h2 : Nat) (D : DT) : Option DT :=
  gd (InR (D.1 h0 4)) (if (D.1 h0 4) = 0 then (
    m_X6_renew_10 h0 h1 h2 (0, D)
  ) else (
    some D
  ))
noncomputable def m_X5_ranked (h0 : Nat) (D : DT) : Option DT :=
  (m_X5_tallied h0 D).bind (fun D9 =>
  (m_X6_renew (h0 + 14) (h0 + 1) (h0 + 10) D9).bind (fun D15 =>
  some D15
  ))
noncomputable def m_X5_crowded (h0 : Nat) (v1 : Int) (D : DT) : Option DT :=
  (m_X2_isOf (h0 + 22) v1 D).bind (fun r5 =>
  gd (InR r5) (if r5 = 0 then (
    (m_X5_tallied h0 D).bind (fun D20 =>
    (m_X6_renew (h0 + 14) (h0 + 1) (h0 + 10) D20).bind (fun D26 =>
    (m_X2_gather (h0 + 22) (h0 + 1) (h0 + 9) (h0 + 14) v1 D26).bind (fun D46 =>
    some D46
    )))
  ) else (
    some D
  ))
  )
noncomputable def m_X5_numbersChanged (h0 : Nat) (D : DT) : Option DT :=
  sq (sF D (h0 + 9) 0 0) (fun D5 =>
  (m_X2_forget (h0 + 22) D5).bind (fun D12 =>
  some D12
  ))
noncomputable def m_X6_forget (h0 : Nat) (v1 : Int) (D : DT) : Option DT :=
  gd (((0 : Int) ≤ v1 ∧ v1 < (8 : Int)) ∧ ((0 : Int) = 0 ∨ (0 : Int) = 1)) (sq (sA D (h0 + 4) (Int.toNat v1) 0) (fun D6 =>
  sq (sF D6 h0 4 0) (fun D9 =>
  some D9
  )))
noncomputable def m_X5_landChanged (h0 : Nat) (v1 : Int) (D : DT) : Option DT :=
  gd (InR v1 ∧ InR (-1)) (if v1 = (-1) then (
    some D
  ) else (
    (m_X6_forget (h0 + 14) v1 D).bind (fun D10 =>
    (m_X5_numbersChanged h0 D10).bind (fun D14 =>
    some D14
    ))
  ))
noncomputable def m_X6_forgetAll_2 (h0 : Nat) (s : (Int × DT)) : Option DT := loopF (fun s =>
  gd (InR s.1 ∧ InR 8) (if s.1 < 8 then (
    (m_X6_forget h0 s.1 s.2).bind (fun D10 =>
    some (.inl ((s.1 + 1), D10))
    )
  ) else (
    done (
    some s.2
    )
  ))) s
noncomputable def m_X6_forgetAll (h0 : Nat) (D : DT) : Option DT :=
  m_X6_forgetAll_2 h0 (0, D)
noncomputable def m_X5_mapChanged (h0 : Nat) (D : DT) : Option DT :=
  (m_X6_forgetAll (h0 + 14) D).bind (fun D4 =>
  (m_X5_numbersChanged h0 D4).bind (fun D8 =>
  some D8
  ))
noncomputable def m_X6_copyFrom_18 (h0 : Nat) (h1 : Nat) (s : (Int × DT)) : Option DT := loopF (fun s =>
  gd (InR s.1 ∧ InR 8) (if s.1 < 8 then (
    gd ((0 : Int) ≤ s.1 ∧ s.1 < (8 : Int)) (
    gd (((0 : Int) ≤ s.1 ∧ s.1 < (8 : Int)) ∧ (((s.2.2 (h1 + 4) (Int.toNat s.1)) : Int) = 0 ∨ ((s.2.2 (h1 + 4) (Int.toNat s.1)) : Int) = 1)) (sq (sA s.2 (h0 + 4) (Int.toNat s.1) (s.2.2 (h1 + 4) (Int.toNat s.1))) (fun D35 =>
    some (.inl ((s.1 + 1), D35))
    )))
  ) else (
    done (
    sq (sF s.2 h0 4 0) (fun D44 =>
    some D44
    )
    )
  ))) s
noncomputable def m_X6_copyFrom (h0 : Nat) (h1 : Nat) (D : DT) : Option DT :=
  gd ((h1 + 1) ≠ (h0 + 1) ∧ ((0 : Int) ≤ 0 ∧ (0 : Int) + 384 ≤ (384 : Int)) ∧ ((0 : Int) ≤ 0 ∧ (0 : Int) + 384 ≤ (384 : Int)) ∧ (0 : Int) ≤ 384) (sq (sCopy D (h1 + 1) (Int.toNat 0) (h0 + 1) (Int.toNat 0) (Int.toNat 384)) (fun D13 =>
  m_X6_copyFrom_18 h0 h1 (0, D13)
  ))
noncomputable def m_X5_copyFrom (h0 : Nat) (h1 : Nat) (D : DT) : Option DT :=
  (m_X1_copyFrom (h0 + 1) (h1 + 1) D).bind (fun D8 =>
  sq (sF D8 h0 1 (D8.1 h1 1)) (fun D16 =>
  sq (sF D16 h0 2 (D16.1 h1 2)) (fun D24 =>
  (m_X6_copyFrom (h0 + 14) (h1 + 14) D24).bind (fun D35 =>
  (m_X5_numbersChanged h0 D35).bind (fun D39 =>
  some D39
  )))))
noncomputable def m_X7_put (v1 : Int) (D : DT) : Option DT :=
  gd (InR (D.1 65 0) ∧ InR 1600) (if (D.1 65 0) < 1600 then (
    gd (((0 : Int) ≤ (D.1 65 0) ∧ (D.1 65 0) < (1600 : Int)) ∧ ((-128 : Int) ≤ (i2b v1) ∧ (i2b v1) ≤ (127 : Int))) (sq (sA D 66 (Int.toNat (D.1 65 0)) (i2b v1)) (fun D20 =>
    sq (sF D20 65 0 ((D20.1 65 0) + 1)) (fun D28 =>
    some D28
    )))
  ) else (
    some D
  ))
noncomputable def m_X7_putText_2 (t1 : Nat) (s : (Int × DT)) : Option DT := loopF (fun s =>
  gd (InR s.1 ∧ InR (strL t1)) (if s.1 < (strL t1) then (
    gd (0 ≤ s.1 ∧ s.1 < strL t1) (
    (m_X7_put (strC t1 (Int.toNat s.1)) s.2).bind (fun D16 =>
    some (.inl ((s.1 + 1), D16))
    ))
  ) else (
    done (
    some s.2
    )
  ))) s
noncomputable def m_X7_putText (t1 : Nat) (D : DT) : Option DT :=
  m_X7_putText_2 t1 (0, D)
noncomputable def m_X7_putNumber (v1 : Int) (D : DT) : Option DT :=
  gd (InR v1 ∧ InR 10) (if 10 ≤ v1 then (
    gd ((0 : Int) ≤ v1 ∧ v1 ≤ (2147483647 : Int) ∧ (0 : Int) < 10 ∧ 10 ≤ (2147483647 : Int)) (
    (m_X7_put (48 + (v1 / 10)) D).bind (fun D14 =>
    gd ((0 : Int) ≤ v1 ∧ v1 ≤ (2147483647 : Int) ∧ (0 : Int) < 10 ∧ 10 ≤ (2147483647 : Int)) (
    (m_X7_put (48 + (v1 % 10)) D14).bind (fun D25 =>
    some D25
    ))))
  ) else (
    gd ((0 : Int) ≤ v1 ∧ v1 ≤ (2147483647 : Int) ∧ (0 : Int) < 10 ∧ 10 ≤ (2147483647 : Int)) (
    (m_X7_put (48 + (v1 % 10)) D).bind (fun D25 =>
    some D25
    ))
  ))
noncomputable def m_X7_putHead_9 (h1 : Nat) (v2 : Int) (v3 : Int) (s : (Int × DT)) : Option DT := loopF (fun s =>
  gd ((0 : Int) ≤ v2 ∧ v2 < (8 : Int)) (
  gd (InR s.1 ∧ InR (s.2.2 (h1 + 7) (Int.toNat v2))) (if s.1 < (s.2.2 (h1 + 7) (Int.toNat v2)) then (
    gd ((0 : Int) ≤ ((v2 * 6) + s.1) ∧ ((v2 * 6) + s.1) < (48 : Int)) (
    (m_X7_put (s.2.2 (h1 + 6) (Int.toNat ((v2 * 6) + s.1))) s.2).bind (fun D33 =>
    some (.inl ((s.1 + 1), D33))
    ))
  ) else (
    done (
    (m_X7_putText 7 s.2).bind (fun D45 =>
    (m_X7_putNumber v3 D45).bind (fun D50 =>
    (m_X7_putText 8 D50).bind (fun D56 =>
    some D56
    )))
    )
  ))
  )) s
noncomputable def m_X7_putHead (h1 : Nat) (v2 : Int) (v3 : Int) (D : DT) : Option DT :=
  (m_X7_putText 6 D).bind (fun D3 =>
  m_X7_putHead_9 h1 v2 v3 (0, D3)
  )
noncomputable def m_X7_putRuns_3 (h1 : Nat) (v2 : Int) (v3 : Int) (v4 : Int) (s : (Int × DT)) : Option DT := loopF (fun s =>
  gd (InR s.1 ∧ InR v4) (if s.1 < v4 then (
    gd (InR s.1) (if 0 < s.1 then (
      (m_X7_putText 9 s.2).bind (fun D23 =>
      (m_X1_runEdge h1 v2 v3 s.1 0 D23).bind (fun r33 =>
      (m_X7_putNumber r33 D23).bind (fun D36 =>
      (m_X7_putText 11 D36).bind (fun D42 =>
      (m_X1_runEdge h1 v2 v3 s.1 1 D42).bind (fun r52 =>
      (m_X7_putNumber r52 D42).bind (fun D55 =>
      some (.inl ((s.1 + 1), D55))
      ))))))
    ) else (
      (m_X7_putText 10 s.2).bind (fun D23 =>
      (m_X1_runEdge h1 v2 v3 s.1 0 D23).bind (fun r33 =>
      (m_X7_putNumber r33 D23).bind (fun D36 =>
      (m_X7_putText 11 D36).bind (fun D42 =>
      (m_X1_runEdge h1 v2 v3 s.1 1 D42).bind (fun r52 =>
      (m_X7_putNumber r52 D42).bind (fun D55 =>
      some (.inl ((s.1 + 1), D55))
      ))))))
    ))
  ) else (
    done (
    (m_X7_putText 12 s.2).bind (fun D67 =>
    some D67
    )
    )
  ))) s
noncomputable def m_X7_putRuns (h1 : Nat) (v2 : Int) (v3 : Int) (v4 : Int) (D : DT) : Option DT :=
  m_X7_putRuns_3 h1 v2 v3 v4 (0, D)
noncomputable def m_X7_writeZone_7 (h1 : Nat) (v2 : Int) (s : (Int × DT)) : Option DT := loopF (fun s =>
  gd (InR s.1 ∧ InR (s.2.1 h1 1)) (if s.1 < (s.2.1 h1 1) then (
    (m_X1_runsOf h1 v2 s.1 s.2).bind (fun r18 =>
    gd (InR r18) (if 0 < r18 then (
      (m_X7_putHead h1 v2 s.1 s.2).bind (fun D32 =>
      (m_X7_putRuns h1 v2 s.1 r18 D32).bind (fun D41 =>
      some (.inl ((s.1 + 1), D41))
      ))
    ) else (
      some (.inl ((s.1 + 1), s.2))
    ))
    )
  ) else (
    done (
    some s.2
    )
  ))) s
noncomputable def m_X7_writeZone (h1 : Nat) (v2 : Int) (D : DT) : Option DT :=
  sq (sF D 65 0 0) (fun D2 =>
  m_X7_writeZone_7 h1 v2 (0, D2)
  )
noncomputable def m_X8_broughtTo (h0 : Nat) (v1 : Int) (v2 : Int) (v3 : Int) (D : DT) : Option Int :=
  (m_X8_placeOf v1 v2 v3 D).bind (fun r7 =>
  gd ((0 : Int) ≤ r7 ∧ r7 < (120 : Int)) (
  some (D.2 (h0 + 3) (Int.toNat r7))
  ))
noncomputable def m_X8_restOf (h0 : Nat) (v1 : Int) (v2 : Int) (D : DT) : Option Int :=
  gd ((0 : Int) ≤ ((v2 * 3) + v1) ∧ ((v2 * 3) + v1) < (15 : Int)) (
  some (D.2 (h0 + 4) (Int.toNat ((v2 * 3) + v1)))
  )
noncomputable def m_X8_sumOfGroup_5 (h0 : Nat) (v1 : Int) (v2 : Int) (D : DT) (s : (Int × Int)) : Option Int := loopF (fun s =>
  gd (InR s.2 ∧ InR (D.1 h0 2)) (if s.2 < (D.1 h0 2) then (
    (m_X8_dotsOf h0 s.2 v1 v2 D).bind (fun r20 =>
    some (.inl ((s.1 + r20), (s.2 + 1)))
    )
  ) else (
    done (
    some s.1
    )
  ))) s
noncomputable def m_X8_sumOfGroup (h0 : Nat) (v1 : Int) (v2 : Int) (D : DT) : Option Int :=
  m_X8_sumOfGroup_5 h0 v1 v2 D (0, 0)
noncomputable def m_X8_sumOfLevel_4 (h0 : Nat) (v1 : Int) (D : DT) (s : (Int × Int)) : Option Int := loopF (fun s =>
  gd (InR s.2 ∧ InR (D.1 h0 3)) (if s.2 < (D.1 h0 3) then (
    (m_X8_sumOfGroup h0 s.2 v1 D).bind (fun r16 =>
    some (.inl ((s.1 + r16), (s.2 + 1)))
    )
  ) else (
    done (
    some s.1
    )
  ))) s
noncomputable def m_X8_sumOfLevel (h0 : Nat) (v1 : Int) (D : DT) : Option Int :=
  m_X8_sumOfLevel_4 h0 v1 D (0, 0)
noncomputable def m_X8_sumOfZone_5 (h0 : Nat) (v1 : Int) (v2 : Int) (D : DT) (s : (Int × Int)) : Option Int := loopF (fun s =>
  gd (InR s.2 ∧ InR (D.1 h0 3)) (if s.2 < (D.1 h0 3) then (
    (m_X8_dotsOf h0 v1 s.2 v2 D).bind (fun r20 =>
    some (.inl ((s.1 + r20), (s.2 + 1)))
    )
  ) else (
    done (
    some s.1
    )
  ))) s
noncomputable def m_X8_sumOfZone (h0 : Nat) (v1 : Int) (v2 : Int) (D : DT) : Option Int :=
  m_X8_sumOfZone_5 h0 v1 v2 D (0, 0)
noncomputable def m_X8_sumWithUnit_24 (h0 : Nat) (h1 : Nat) (v2 : Int) (v4 : Int) (D : DT) (s : (Int × Int × Int)) : Option ((Int × Int) ⊕ Int) := loopF (fun s =>
  gd (InR s.2.2 ∧ InR (D.1 h0 2)) (if s.2.2 < (D.1 h0 2) then (
    (m_X1_livingIn h1 s.2.2 v4 D).bind (fun r40 =>
    gd ((0 : Int) ≤ s.2.2 ∧ s.2.2 < (8 : Int)) (
    gd (InR (D.2 (h0 + 1) (Int.toNat s.2.2))) (if 0 < (D.2 (h0 + 1) (Int.toNat s.2.2)) then (
      gd ((0 : Int) ≤ (s.2.1 + r40) ∧ (s.2.1 + r40) ≤ (2147483647 : Int) ∧ (0 : Int) < v2 ∧ v2 ≤ (2147483647 : Int)) (
      gd ((0 : Int) ≤ (s.2.1 + r40) ∧ (s.2.1 + r40) ≤ (2147483647 : Int) ∧ (0 : Int) < v2 ∧ v2 ≤ (2147483647 : Int)) (
      some (.inl ((s.1 + ((s.2.1 + r40) / v2)), ((s.2.1 + r40) % v2), (s.2.2 + 1)))
      ))
    ) else (
      some (.inl (s.1, (s.2.1 + r40), (s.2.2 + 1)))
    ))
    ))
  ) else (
    done (
    some (.inl (s.1, (v4 + 1)))
    )
  ))) s
noncomputable def m_X8_sumWithUnit_5 (h0 : Nat) (h1 : Nat) (v2 : Int) (D : DT) (s : (Int × Int)) : Option Int := loopF (fun s =>
  gd (InR s.2 ∧ InR (D.1 h0 3)) (if s.2 < (D.1 h0 3) then (
    gd (InR v2) (if 0 < v2 then (
      m_X8_sumWithUnit_24 h0 h1 v2 s.2 D (s.1, 0, 0)
    ) else (
      done (
      some s.1
      )
    ))
  ) else (
    done (
    some s.1
    )
  ))) s
noncomputable def m_X8_sumWithUnit (h0 : Nat) (h1 : Nat) (v2 : Int) (D : DT) : Option Int :=
  m_X8_sumWithUnit_5 h0 h1 v2 D (0, 0)
noncomputable def m_X9_takeBytes_3 (v1 : Int) (s : (Int × DT)) : Option DT := loopF (fun s =>
  gd (InR s.1) (if 0 ≤ s.1 then (
    gd (InR (s.2.1 55 0) ∧ InR 400) (if (s.2.1 55 0) < 400 then (
      gd (((0 : Int) ≤ (s.2.1 55 0) ∧ (s.2.1 55 0) < (400 : Int)) ∧ ((-128 : Int) ≤ (i2b (shr v1 s.1)) ∧ (i2b (shr v1 s.1)) ≤ (127 : Int))) (sq (sA s.2 64 (Int.toNat (s.2.1 55 0)) (i2b (shr v1 s.1))) (fun D29 =>
      sq (sF D29 55 0 ((D29.1 55 0) + 1)) (fun D37 =>
      some (.inl ((s.1 + (-8)), D37))
      )))
    ) else (
      some (.inl ((s.1 + (-8)), s.2))
    ))
  ) else (
    done (
    some s.2
    )
  ))) s
noncomputable def m_X9_takeBytes (v1 : Int) (D : DT) : Option DT :=
  m_X9_takeBytes_3 v1 (24, D)
noncomputable def m_X9_skipBlanks_53 (D : DT) : Option (DT ⊕ DT) :=
  sq (sF D 55 3 ((D.1 55 3) + 1)) (fun D60 =>
  some (.inl D60)
  )
noncomputable def m_X9_skipBlanks_0 (s : DT) : Option DT := loopF (fun s =>
  gd (InR (s.1 55 3) ∧ InR (s.1 55 0)) (if (s.1 55 3) < (s.1 55 0) then (
    gd ((0 : Int) ≤ (s.1 55 3) ∧ (s.1 55 3) < (400 : Int)) (
    gd (InR (s.2 64 (Int.toNat (s.1 55 3))) ∧ InR 9) (if (s.2 64 (Int.toNat (s.1 55 3))) = 9 then (
      m_X9_skipBlanks_53 s
    ) else (
      gd ((0 : Int) ≤ (s.1 55 3) ∧ (s.1 55 3) < (400 : Int)) (
      gd (InR (s.2 64 (Int.toNat (s.1 55 3))) ∧ InR 10) (if (s.2 64 (Int.toNat (s.1 55 3))) = 10 then (
        m_X9_skipBlanks_53 s
      ) else (
        gd ((0 : Int) ≤ (s.1 55 3) ∧ (s.1 55 3) < (400 : Int)) (
        gd (InR (s.2 64 (Int.toNat (s.1 55 3))) ∧ InR 32) (if (s.2 64 (Int.toNat (s.1 55 3))) = 32 then (
          m_X9_skipBlanks_53 s
        ) else (
          done (
          some s
          )
        ))
        )
      ))
      )
    ))
    )
  ) else (
    done (
    some s
    )
  ))) s
noncomputable def m_X9_skipBlanks (D : DT) : Option DT :=
  m_X9_skipBlanks_0 D
noncomputable def m_X9_failAt (v1 : Int) (D : DT) : Option (Int × DT) :=
  sq (sF D 55 8 v1) (fun D2 =>
  some (0, D2)
  )
noncomputable def m_X9_readWord_64 (D : DT) : Option (Int × DT) :=
  sq (sF D 55 5 ((D.1 55 3) - (D.1 55 4))) (fun D74 =>
  gd (InR (D74.1 55 5)) (if (D74.1 55 5) ≤ 0 then (
    bnd (m_X9_failAt (D74.1 55 3) D74) (fun r89 D89 =>
    gd (InR r89) (if r89 = 0 then (
      some (0, D89)
    ) else (
      some (1, D89)
    ))
    )
  ) else (
    some (1, D74)
  ))
  )
noncomputable def m_X9_readWord_12 (s : DT) : Option (Int × DT) := loopF (fun s =>
  gd (InR (s.1 55 3) ∧ InR (s.1 55 0)) (if (s.1 55 3) < (s.1 55 0) then (
    gd ((0 : Int) ≤ (s.1 55 3) ∧ (s.1 55 3) < (400 : Int)) (
    gd (InR (s.2 64 (Int.toNat (s.1 55 3))) ∧ InR 97) (if 97 ≤ (s.2 64 (Int.toNat (s.1 55 3))) then (
      gd ((0 : Int) ≤ (s.1 55 3) ∧ (s.1 55 3) < (400 : Int)) (
      gd (InR (s.2 64 (Int.toNat (s.1 55 3))) ∧ InR 122) (if (s.2 64 (Int.toNat (s.1 55 3))) ≤ 122 then (
        sq (sF s 55 3 ((s.1 55 3) + 1)) (fun D58 =>
        some (.inl D58)
        )
      ) else (
        done (
        m_X9_readWord_64 s
        )
      ))
      )
    ) else (
      done (
      m_X9_readWord_64 s
      )
    ))
    )
  ) else (
    done (
    m_X9_readWord_64 s
    )
  ))) s
noncomputable def m_X9_readWord (D : DT) : Option (Int × DT) :=
  (m_X9_skipBlanks D).bind (fun D1 =>
  sq (sF D1 55 4 (D1.1 55 3)) (fun D9 =>
  m_X9_readWord_12 D9
  ))
noncomputable def m_X9_wordIs_15 (t1 : Nat) (D : DT) (s : Int) : Option Int := loopF (fun s =>
  gd (InR s ∧ InR (D.1 55 5)) (if s < (D.1 55 5) then (
    gd (0 ≤ s ∧ s < strL t1) (
    gd ((0 : Int) ≤ ((D.1 55 4) + s) ∧ ((D.1 55 4) + s) < (400 : Int)) (
    gd (InR (strC t1 (Int.toNat s)) ∧ InR (D.2 64 (Int.toNat ((D.1 55 4) + s)))) (if (strC t1 (Int.toNat s)) = (D.2 64 (Int.toNat ((D.1 55 4) + s))) then (
      some (.inl (s + 1))
    ) else (
      done (
      some 0
      )
    ))
    ))
  ) else (
    done (
    some 1
    )
  ))) s
noncomputable def m_X9_wordIs (t1 : Nat) (D : DT) : Option Int :=
  gd (InR (strL t1) ∧ InR (D.1 55 5)) (if (strL t1) = (D.1 55 5) then (
    m_X9_wordIs_15 t1 D 0
  ) else (
    some 0
  ))
noncomputable def m_X9_readKeyword (t1 : Nat) (D : DT) : Option (Int × DT) :=
  bnd (m_X9_readWord D) (fun r1 D1 =>
  gd (InR r1) (if r1 = 0 then (
    some (0, D1)
  ) else (
    (m_X9_wordIs t1 D1).bind (fun r11 =>
    gd (InR r11) (if r11 = 0 then (
      bnd (m_X9_failAt (D1.1 55 4) D1) (fun r22 D22 =>
      gd (InR r22) (if r22 = 0 then (
        some (0, D22)
      ) else (
        some (1, D22)
      ))
      )
    ) else (
      some (1, D1)
    ))
    )
  ))
  )
noncomputable def m_X9_readNumber_146 (x0 : Int) (D : DT) : Option (Int × DT) :=
  gd (InR x0) (if x0 = 0 then (
    bnd (m_X9_failAt (D.1 55 6) D) (fun r158 D158 =>
    gd (InR r158) (if r158 = 0 then (
      some (0, D158)
    ) else (
      some (1, D158)
    ))
    )
  ) else (
    some (1, D)
  ))
noncomputable def m_X9_readNumber_106 (v1 : Int) (v2 : Int) (D : DT) : Option (Int × DT) :=
  gd (InR ((D.1 55 3) - (D.1 55 6))) (if 0 < ((D.1 55 3) - (D.1 55 6)) then (
    gd (InR ((D.1 55 3) - (D.1 55 6)) ∧ InR 5) (if ((D.1 55 3) - (D.1 55 6)) ≤ 5 then (
      gd (InR (D.1 55 7) ∧ InR v1) (if v1 ≤ (D.1 55 7) then (
        gd (InR (D.1 55 7) ∧ InR v2) (if (D.1 55 7) ≤ v2 then (
          m_X9_readNumber_146 1 D
        ) else (
          m_X9_readNumber_146 0 D
        ))
      ) else (
        m_X9_readNumber_146 0 D
      ))
    ) else (
      m_X9_readNumber_146 0 D
    ))
  ) else (
    m_X9_readNumber_146 0 D
  ))
noncomputable def m_X9_readNumber_17 (v1 : Int) (v2 : Int) (s : DT) : Option (Int × DT) := loopF (fun s =>
  gd (InR (s.1 55 3) ∧ InR (s.1 55 0)) (if (s.1 55 3) < (s.1 55 0) then (
    gd ((0 : Int) ≤ (s.1 55 3) ∧ (s.1 55 3) < (400 : Int)) (
    gd (InR (s.2 64 (Int.toNat (s.1 55 3))) ∧ InR 48) (if 48 ≤ (s.2 64 (Int.toNat (s.1 55 3))) then (
      gd ((0 : Int) ≤ (s.1 55 3) ∧ (s.1 55 3) < (400 : Int)) (
      gd (InR (s.2 64 (Int.toNat (s.1 55 3))) ∧ InR 57) (if (s.2 64 (Int.toNat (s.1 55 3))) ≤ 57 then (
        gd (InR ((s.1 55 3) - (s.1 55 6)) ∧ InR 5) (if ((s.1 55 3) - (s.1 55 6)) < 5 then (
          gd ((0 : Int) ≤ (s.1 55 3) ∧ (s.1 55 3) < (400 : Int)) (
          sq (sF s 55 7 ((((s.1 55 7) * 10) + (s.2 64 (Int.toNat (s.1 55 3)))) - 48)) (fun D90 =>
          sq (sF D90 55 3 ((D90.1 55 3) + 1)) (fun D100 =>
          some (.inl D100)
          )))
        ) else (
          sq (sF s 55 3 ((s.1 55 3) + 1)) (fun D100 =>
          some (.inl D100)
          )
        ))
      ) else (
        done (
        m_X9_readNumber_106 v1 v2 s
        )
      ))
      )
    ) else (
      done (
      m_X9_readNumber_106 v1 v2 s
      )
    ))
    )
  ) else (
    done (
    m_X9_readNumber_106 v1 v2 s
    )
  ))) s
noncomputable def m_X9_readNumber (v1 : Int) (v2 : Int) (D : DT) : Option (Int × DT) :=
  (m_X9_skipBlanks D).bind (fun D1 =>
  sq (sF D1 55 6 (D1.1 55 3)) (fun D9 =>
  sq (sF D9 55 7 0) (fun D14 =>
  m_X9_readNumber_17 v1 v2 D14
  )))
noncomputable def m_X9_nextIs (v1 : Int) (D : DT) : Option (Int × DT) :=
  (m_X9_skipBlanks D).bind (fun D1 =>
  gd (InR (D1.1 55 3) ∧ InR (D1.1 55 0)) (if (D1.1 55 3) < (D1.1 55 0) then (
    gd ((0 : Int) ≤ (D1.1 55 3) ∧ (D1.1 55 3) < (400 : Int)) (
    gd (InR (D1.2 64 (Int.toNat (D1.1 55 3))) ∧ InR v1) (if (D1.2 64 (Int.toNat (D1.1 55 3))) = v1 then (
      some (1, D1)
    ) else (
      some (0, D1)
    ))
    )
  ) else (
    some (0, D1)
  ))
  )
noncomputable def m_X9_readSign (v1 : Int) (D : DT) : Option (Int × DT) :=
  bnd (m_X9_nextIs v1 D) (fun r2 D2 =>
  gd (InR r2) (if r2 = 0 then (
    bnd (m_X9_failAt (D2.1 55 3) D2) (fun r13 D13 =>
    gd (r13 = 0 ∨ r13 = 1) (some (r13, D13))
    )
  ) else (
    sq (sF D2 55 3 ((D2.1 55 3) + 1)) (fun D24 =>
    some (1, D24)
    )
  ))
  )
noncomputable def m_X9_readSize (D : DT) : Option (Int × DT) :=
  bnd (m_X9_readKeyword 0 D) (fun r3 D3 =>
  gd (InR r3) (if r3 = 0 then (
    some (0, D3)
  ) else (
    bnd (m_X9_readNumber 2 24 D3) (fun r13 D13 =>
    gd (InR r13) (if r13 = 0 then (
      some (0, D13)
    ) else (
      bnd (m_X9_readNumber 2 16 D13) (fun r30 D30 =>
      gd (InR r30) (if r30 = 0 then (
        some (0, D30)
      ) else (
        (m_X1_shape 56 (D13.1 55 7) (D30.1 55 7) D30).bind (fun D47 =>
        bnd (m_X9_readSign 59 D47) (fun r53 D53 =>
        gd (r53 = 0 ∨ r53 = 1) (some (r53, D53))
        ))
      ))
      )
    ))
    )
  ))
  )
noncomputable def m_X9_readGroups (D : DT) : Option (Int × DT) :=
  gd (InR (D.1 55 9)) (if (D.1 55 9) = 0 then (
    gd (InR (D.1 56 2)) (if 0 < (D.1 56 2) then (
      bnd (m_X9_failAt (D.1 55 4) D) (fun r22 D22 =>
      gd (r22 = 0 ∨ r22 = 1) (some (r22, D22))
      )
    ) else (
      bnd (m_X9_readNumber 1 3 D) (fun r29 D29 =>
      gd (InR r29) (if r29 = 0 then (
        some (0, D29)
      ) else (
        sq (sF D29 55 9 1) (fun D39 =>
        sq (sF D39 56 3 (D39.1 55 7)) (fun D50 =>
        bnd (m_X9_readSign 59 D50) (fun r56 D56 =>
        gd (r56 = 0 ∨ r56 = 1) (some (r56, D56))
        )))
      ))
      )
    ))
  ) else (
    bnd (m_X9_failAt (D.1 55 4) D) (fun r22 D22 =>
    gd (r22 = 0 ∨ r22 = 1) (some (r22, D22))
    )
  ))
noncomputable def m_X9_isReserved_54 (D : DT) : Option Int :=
  some 1
noncomputable def m_X9_isReserved (D : DT) : Option Int :=
  (m_X9_wordIs 0 D).bind (fun r3 =>
  gd (InR r3) (if r3 = 0 then (
    (m_X9_wordIs 1 D).bind (fun r12 =>
    gd (InR r12) (if r12 = 0 then (
      (m_X9_wordIs 2 D).bind (fun r21 =>
      gd (InR r21) (if r21 = 0 then (
        (m_X9_wordIs 3 D).bind (fun r30 =>
        gd (InR r30) (if r30 = 0 then (
          (m_X9_wordIs 4 D).bind (fun r39 =>
          gd (InR r39) (if r39 = 0 then (
            (m_X9_wordIs 5 D).bind (fun r48 =>
            gd (InR r48) (if r48 = 0 then (
              some 0
            ) else (
              m_X9_isReserved_54 D
            ))
            )
          ) else (
            m_X9_isReserved_54 D
          ))
          )
        ) else (
          m_X9_isReserved_54 D
        ))
        )
      ) else (
        m_X9_isReserved_54 D
      ))
      )
    ) else (
      m_X9_isReserved_54 D
    ))
    )
  ) else (
    m_X9_isReserved_54 D
  ))
  )
noncomputable def m_X9_wordIsNameOf_20 (v1 : Int) (D : DT) (s : Int) : Option Int := loopF (fun s =>
  gd (InR s ∧ InR (D.1 55 5)) (if s < (D.1 55 5) then (
    gd ((0 : Int) ≤ ((v1 * 6) + s) ∧ ((v1 * 6) + s) < (48 : Int)) (
    gd ((0 : Int) ≤ ((D.1 55 4) + s) ∧ ((D.1 55 4) + s) < (400 : Int)) (
    gd (InR (D.2 62 (Int.toNat ((v1 * 6) + s))) ∧ InR (D.2 64 (Int.toNat ((D.1 55 4) + s)))) (if (D.2 62 (Int.toNat ((v1 * 6) + s))) = (D.2 64 (Int.toNat ((D.1 55 4) + s))) then (
      some (.inl (s + 1))
    ) else (
      done (
      some 0
      )
    ))
    ))
  ) else (
    done (
    some 1
    )
  ))) s
noncomputable def m_X9_wordIsNameOf (v1 : Int) (D : DT) : Option Int :=
  gd ((0 : Int) ≤ v1 ∧ v1 < (8 : Int)) (
  gd (InR (D.2 63 (Int.toNat v1)) ∧ InR (D.1 55 5)) (if (D.2 63 (Int.toNat v1)) = (D.1 55 5) then (
    m_X9_wordIsNameOf_20 v1 D 0
  ) else (
    some 0
  ))
  )
noncomputable def m_X9_zoneNamed_2 (D : DT) (s : Int) : Option Int := loopF (fun s =>
  gd (InR s ∧ InR (D.1 56 2)) (if s < (D.1 56 2) then (
    (m_X9_wordIsNameOf s D).bind (fun r15 =>
    gd (InR r15) (if r15 = 0 then (
      some (.inl (s + 1))
    ) else (
      done (
      some s
      )
    ))
    )
  ) else (
    done (
    some (-1)
    )
  ))) s
noncomputable def m_X9_zoneNamed (D : DT) : Option Int :=
  m_X9_zoneNamed_2 D 0
noncomputable def m_X9_readPeople_28 (v1 : Int) (v2 : Int) (D : DT) : Option ((Int × DT) ⊕ (Int × DT)) :=
  bnd (m_X9_readNumber 0 99999 D) (fun r32 D32 =>
  gd (InR r32) (if r32 = 0 then (
    done (
    some (0, D32)
    )
  ) else (
    (m_X1_settle 56 v1 v2 (D32.1 55 7) D32).bind (fun D50 =>
    some (.inl ((v2 + 1), D50))
    )
  ))
  )
noncomputable def m_X9_readPeople_2 (v1 : Int) (s : (Int × DT)) : Option (Int × DT) := loopF (fun s =>
  gd (InR s.1 ∧ InR (s.2.1 56 3)) (if s.1 < (s.2.1 56 3) then (
    gd (InR s.1) (if 0 < s.1 then (
      bnd (m_X9_readSign 44 s.2) (fun r20 D20 =>
      gd (InR r20) (if r20 = 0 then (
        done (
        some (0, D20)
        )
      ) else (
        m_X9_readPeople_28 v1 s.1 D20
      ))
      )
    ) else (
      m_X9_readPeople_28 v1 s.1 s.2
    ))
  ) else (
    done (
    some (1, s.2)
    )
  ))) s
noncomputable def m_X9_readPeople (v1 : Int) (D : DT) : Option (Int × DT) :=
  m_X9_readPeople_2 v1 (0, D)
noncomputable def m_X9_readZone (D : DT) : Option (Int × DT) :=
  gd (InR (D.1 56 2) ∧ InR 8) (if 8 ≤ (D.1 56 2) then (
    bnd (m_X9_failAt (D.1 55 4) D) (fun r17 D17 =>
    gd (r17 = 0 ∨ r17 = 1) (some (r17, D17))
    )
  ) else (
    bnd (m_X9_readWord D) (fun r22 D22 =>
    gd (InR r22) (if r22 = 0 then (
      some (0, D22)
    ) else (
      gd (InR (D22.1 55 5) ∧ InR 6) (if (D22.1 55 5) ≤ 6 then (
        (m_X9_isReserved D22).bind (fun r40 =>
        gd (InR r40) (if r40 = 0 then (
          (m_X9_zoneNamed D22).bind (fun r47 =>
          gd (InR r47 ∧ InR (-1)) (if r47 = (-1) then (
            gd ((64 ≠ 62 ∧ ((0 : Int) ≤ (D22.1 55 4) ∧ ((D22.1 55 4) : Int) + (D22.1 55 5) ≤ (400 : Int)) ∧ ((0 : Int) ≤ ((D22.1 56 2) * 6) ∧ (((D22.1 56 2) * 6) : Int) + (D22.1 55 5) ≤ (48 : Int)) ∧ (0 : Int) ≤ (D22.1 55 5)) ∧ ∀ i, i < (Int.toNat (D22.1 55 5)) → -128 ≤ D22.2 64 ((Int.toNat (D22.1 55 4)) + i) ∧ D22.2 64 ((Int.toNat (D22.1 55 4)) + i) ≤ 127) (sq (sCopy D22 64 (Int.toNat (D22.1 55 4)) 62 (Int.toNat ((D22.1 56 2) * 6)) (Int.toNat (D22.1 55 5))) (fun D94 =>
            gd ((0 : Int) ≤ (D22.1 56 2) ∧ (D22.1 56 2) < (8 : Int)) (sq (sA D94 63 (Int.toNat (D22.1 56 2)) (D94.1 55 5)) (fun D109 =>
            bnd (m_X9_readKeyword 3 D109) (fun r113 D113 =>
            gd (InR r113) (if r113 = 0 then (
              some (0, D113)
            ) else (
              bnd (m_X9_readPeople (D22.1 56 2) D113) (fun r121 D121 =>
              gd (InR r121) (if r121 = 0 then (
                some (0, D121)
              ) else (
                bnd (m_X9_readSign 59 D121) (fun r130 D130 =>
                gd (InR r130) (if r130 = 0 then (
                  some (0, D130)
                ) else (
                  sq (sF D130 56 2 ((D130.1 56 2) + 1)) (fun D148 =>
                  some (1, D148)
                  )
                ))
                )
              ))
              )
            ))
            )))))
          ) else (
            bnd (m_X9_failAt (D22.1 55 4) D22) (fun r59 D59 =>
            gd (r59 = 0 ∨ r59 = 1) (some (r59, D59))
            )
          ))
          )
        ) else (
          bnd (m_X9_failAt (D22.1 55 4) D22) (fun r59 D59 =>
          gd (r59 = 0 ∨ r59 = 1) (some (r59, D59))
          )
        ))
        )
      ) else (
        bnd (m_X9_failAt (D22.1 55 4) D22) (fun r59 D59 =>
        gd (r59 = 0 ∨ r59 = 1) (some (r59, D59))
        )
      ))
    ))
    )
  ))
noncomputable def m_X9_readToldName (D : DT) : Option (Int × DT) :=
  bnd (m_X9_readWord D) (fun r1 D1 =>
  gd (InR r1) (if r1 = 0 then (
    some (0, D1)
  ) else (
    (m_X9_zoneNamed D1).bind (fun r10 =>
    gd (InR r10 ∧ InR (-1)) (if r10 = (-1) then (
      bnd (m_X9_failAt (D1.1 55 4) D1) (fun r22 D22 =>
      gd (InR r22) (if r22 = 0 then (
        some (0, D22)
      ) else (
        some (1, D22)
      ))
      )
    ) else (
      some (1, D1)
    ))
    )
  ))
  )
noncomputable def m_X9_isOfAnother (v1 : Int) (v2 : Int) (D : DT) : Option Int :=
  gd (InR v2 ∧ InR (-1)) (if v2 = (-1) then (
    some 0
  ) else (
    gd ((0 : Int) ≤ v1 ∧ v1 < (384 : Int)) (
    gd (InR (D.2 57 (Int.toNat v1)) ∧ InR (-1)) (if (D.2 57 (Int.toNat v1)) = (-1) then (
      some 0
    ) else (
      gd ((0 : Int) ≤ v1 ∧ v1 < (384 : Int)) (
      gd (InR (D.2 57 (Int.toNat v1)) ∧ InR v2) (if (D.2 57 (Int.toNat v1)) = v2 then (
        some 0
      ) else (
        some 1
      ))
      )
    ))
    )
  ))
noncomputable def m_X9_mark_3 (v1 : Int) (v3 : Int) (s : (Int × DT)) : Option DT := loopF (fun s =>
  gd (InR s.1 ∧ InR v3) (if s.1 ≤ v3 then (
    gd (InR v1 ∧ InR (-1)) (if v1 = (-1) then (
      gd (((0 : Int) ≤ s.1 ∧ s.1 < (384 : Int)) ∧ ((1 : Int) = 0 ∨ (1 : Int) = 1)) (sq (sA s.2 58 (Int.toNat s.1) 1) (fun D24 =>
      some (.inl ((s.1 + 1), D24))
      ))
    ) else (
      gd ((0 : Int) ≤ s.1 ∧ s.1 < (384 : Int)) (sq (sA s.2 57 (Int.toNat s.1) v1) (fun D38 =>
      some (.inl ((s.1 + 1), D38))
      ))
    ))
  ) else (
    done (
    some s.2
    )
  ))) s
noncomputable def m_X9_mark (v1 : Int) (v2 : Int) (v3 : Int) (D : DT) : Option DT :=
  m_X9_mark_3 v1 v3 (v2, D)
noncomputable def m_X9_readRun_97 (v1 : Int) (v3 : Int) (v4 : Int) (v5 : Int) (v6 : Int) (D : DT) (s : Int) : Option (Int × DT) := loopF (fun s =>
  gd (InR s ∧ InR v6) (if s ≤ v6 then (
    (m_X9_isOfAnother (v5 + s) v1 D).bind (fun r111 =>
    gd (InR r111) (if r111 = 0 then (
      some (.inl (s + 1))
    ) else (
      done (
      bnd (m_X9_failAt v4 D) (fun r120 D120 =>
      gd (r120 = 0 ∨ r120 = 1) (some (r120, D120))
      )
      )
    ))
    )
  ) else (
    done (
    (m_X9_mark v1 (v5 + v3) (v5 + v6) D).bind (fun D141 =>
    some (1, D141)
    )
    )
  ))) s
noncomputable def m_X9_readRun (v1 : Int) (v2 : Int) (D : DT) : Option (Int × DT) :=
  bnd (m_X9_readNumber 0 ((D.1 56 0) - 1) D) (fun r11 D11 =>
  gd (InR r11) (if r11 = 0 then (
    some (0, D11)
  ) else (
    (m_X9_isOfAnother ((v2 * (D11.1 56 0)) + (D11.1 55 7)) v1 D11).bind (fun r47 =>
    gd (InR r47) (if r47 = 0 then (
      bnd (m_X9_readSign 45 D11) (fun r63 D63 =>
      gd (InR r63) (if r63 = 0 then (
        some (0, D63)
      ) else (
        bnd (m_X9_readNumber (D11.1 55 7) ((D63.1 56 0) - 1) D63) (fun r80 D80 =>
        gd (InR r80) (if r80 = 0 then (
          some (0, D80)
        ) else (
          m_X9_readRun_97 v1 (D11.1 55 7) (D11.1 55 6) (v2 * (D11.1 56 0)) (D80.1 55 7) D80 (D11.1 55 7)
        ))
        )
      ))
      )
    ) else (
      bnd (m_X9_failAt (D11.1 55 6) D11) (fun r56 D56 =>
      gd (r56 = 0 ∨ r56 = 1) (some (r56, D56))
      )
    ))
    )
  ))
  )
noncomputable def m_X9_readRuns_46 (v1 : Int) (v2 : Int) (s : (Int × DT)) : Option (Int × DT) := loopF (fun s =>
  gd (InR s.1 ∧ InR 400) (if s.1 < 400 then (
    bnd (m_X9_nextIs 44 s.2) (fun r56 D56 =>
    gd (InR r56) (if r56 = 0 then (
      done (
      bnd (m_X9_readSign 59 D56) (fun r92 D92 =>
      gd (r92 = 0 ∨ r92 = 1) (some (r92, D92))
      )
      )
    ) else (
      sq (sF D56 55 3 ((D56.1 55 3) + 1)) (fun D69 =>
      bnd (m_X9_readRun v1 v2 D69) (fun r75 D75 =>
      gd (InR r75) (if r75 = 0 then (
        done (
        some (0, D75)
        )
      ) else (
        some (.inl ((s.1 + 1), D75))
      ))
      ))
    ))
    )
  ) else (
    done (
    bnd (m_X9_readSign 59 s.2) (fun r92 D92 =>
    gd (r92 = 0 ∨ r92 = 1) (some (r92, D92))
    )
    )
  ))) s
noncomputable def m_X9_readRuns (v1 : Int) (D : DT) : Option (Int × DT) :=
  bnd (m_X9_readNumber 0 ((D.1 56 1) - 1) D) (fun r11 D11 =>
  gd (InR r11) (if r11 = 0 then (
    some (0, D11)
  ) else (
    bnd (m_X9_readSign 58 D11) (fun r27 D27 =>
    gd (InR r27) (if r27 = 0 then (
      some (0, D27)
    ) else (
      bnd (m_X9_readRun v1 (D11.1 55 7) D27) (fun r36 D36 =>
      gd (InR r36) (if r36 = 0 then (
        some (0, D36)
      ) else (
        m_X9_readRuns_46 v1 (D11.1 55 7) (1, D36)
      ))
      )
    ))
    )
  ))
  )
noncomputable def m_X9_readLine (D : DT) : Option (Int × DT) :=
  bnd (m_X9_readWord D) (fun r1 D1 =>
  gd (InR r1) (if r1 = 0 then (
    some (0, D1)
  ) else (
    (m_X9_wordIs 1 D1).bind (fun r12 =>
    gd (InR r12) (if r12 = 0 then (
      (m_X9_wordIs 2 D1).bind (fun r26 =>
      gd (InR r26) (if r26 = 0 then (
        (m_X9_wordIs 4 D1).bind (fun r40 =>
        gd (InR r40) (if r40 = 0 then (
          (m_X9_wordIs 5 D1).bind (fun r73 =>
          gd (InR r73) (if r73 = 0 then (
            bnd (m_X9_failAt (D1.1 55 4) D1) (fun r90 D90 =>
            gd (r90 = 0 ∨ r90 = 1) (some (r90, D90))
            )
          ) else (
            bnd (m_X9_readRuns (-1) D1) (fun r81 D81 =>
            gd (r81 = 0 ∨ r81 = 1) (some (r81, D81))
            )
          ))
          )
        ) else (
          bnd (m_X9_readToldName D1) (fun r47 D47 =>
          gd (InR r47) (if r47 = 0 then (
            some (0, D47)
          ) else (
            (m_X9_zoneNamed D47).bind (fun r55 =>
            bnd (m_X9_readRuns r55 D47) (fun r58 D58 =>
            gd (InR r58) (if r58 = 0 then (
              some (0, D58)
            ) else (
              some (1, D58)
            ))
            ))
          ))
          )
        ))
        )
      ) else (
        bnd (m_X9_readZone D1) (fun r33 D33 =>
        gd (r33 = 0 ∨ r33 = 1) (some (r33, D33))
        )
      ))
      )
    ) else (
      bnd (m_X9_readGroups D1) (fun r19 D19 =>
      gd (r19 = 0 ∨ r19 = 1) (some (r19, D19))
      )
    ))
    )
  ))
  )
noncomputable def m_X9_useUp_33 (s : (Int × Int × DT)) : Option (Int × DT) := loopF (fun s =>
  gd (InR s.1) (if s.1 = 0 then (
    done (
    sq (sF s.2.2 55 0 0) (fun D72 =>
    some ((D72.1 55 8), D72)
    )
    )
  ) else (
    gd (InR (s.2.2.1 55 3) ∧ InR (s.2.2.1 55 0)) (if (s.2.2.1 55 3) < (s.2.2.1 55 0) then (
      gd (InR s.2.1 ∧ InR 400) (if s.2.1 < 400 then (
        bnd (m_X9_readLine s.2.2) (fun r56 D56 =>
        (m_X9_skipBlanks D56).bind (fun D61 =>
        some (.inl (r56, (s.2.1 + 1), D61))
        ))
      ) else (
        done (
        sq (sF s.2.2 55 0 0) (fun D72 =>
        some ((D72.1 55 8), D72)
        )
        )
      ))
    ) else (
      done (
      sq (sF s.2.2 55 0 0) (fun D72 =>
      some ((D72.1 55 8), D72)
      )
      )
    ))
  ))) s
noncomputable def m_X9_useUp (D : DT) : Option (Int × DT) :=
  sq (sF D 55 3 0) (fun D2 =>
  sq (sF D2 55 8 (-1)) (fun D7 =>
  sq (sF D7 55 9 0) (fun D12 =>
  (m_X1_clear 56 D12).bind (fun D19 =>
  bnd (m_X9_readSize D19) (fun r23 D23 =>
  (m_X9_skipBlanks D23).bind (fun D28 =>
  m_X9_useUp_33 (r23, 0, D28)
  ))))))
noncomputable def m_X10_feed (v1 : Int) (v2 : Int) (v3 : Int) (v4 : Int) (v5 : Int) (D : DT) : Option (Int × DT) :=
  gd (InR ((D.1 55 0) + 20) ∧ InR 400) (if 400 < ((D.1 55 0) + 20) then (
    some ((-1), D)
  ) else (
    (m_X9_takeBytes v1 D).bind (fun D23 =>
    (m_X9_takeBytes v2 D23).bind (fun D31 =>
    (m_X9_takeBytes v3 D31).bind (fun D39 =>
    (m_X9_takeBytes v4 D39).bind (fun D48 =>
    (m_X9_takeBytes v5 D48).bind (fun D57 =>
    some ((D57.1 55 0), D57)
    )))))
  ))
noncomputable def m_X10_end (v1 : Int) (D : DT) : Option (Int × DT) :=
  gd (InR v1) (if 0 ≤ v1 then (
    gd (InR v1 ∧ InR (D.1 55 0)) (if (D.1 55 0) < v1 then (
      some (0, D)
    ) else (
      sq (sF D 55 0 v1) (fun D22 =>
      some (1, D22)
      )
    ))
  ) else (
    some (0, D)
  ))
noncomputable def m_X10_read (D : DT) : Option ((Int ⊕ Nat) × DT) :=
  bnd (m_X9_useUp D) (fun r5 D5 =>
  sq (sF D5 0 3 r5) (fun D8 =>
  gd (InR (D8.1 0 3) ∧ InR (-1)) (if (D8.1 0 3) = (-1) then (
    (m_X1_copyFrom 2 56 D8).bind (fun D43 =>
    (m_X5_mapChanged 1 D43).bind (fun D50 =>
    (m_X4_forget D50).bind (fun D57 =>
    some (.inl (D57.1 2 2), D57)
    )))
  ) else (
    some (.inr 2, D8)
  ))
  ))
noncomputable def m_X10_fault (D : DT) : Option Int :=
  some (D.1 0 3)
noncomputable def m_X10_needCell (v1 : Int) (D : DT) : Option (Unit ⊕ Nat) :=
  gd (InR v1) (if 0 ≤ v1 then (
    (m_X1_cells 2 D).bind (fun r12 =>
    gd (InR v1 ∧ InR r12) (if r12 ≤ v1 then (
      some (.inr 0)
    ) else (
      some (.inl ())
    ))
    )
  ) else (
    some (.inr 0)
  ))
noncomputable def m_X10_cell (v1 : Int) (v2 : Int) (D : DT) : Option ((Int ⊕ Nat) × DT) :=
  bndN (m_X10_needCell v1 D) D (
  gd (InR v2) (
  if v2 = 0 then (
    gd ((0 : Int) ≤ v1 ∧ v1 < (384 : Int)) (
    some (.inl (D.2 3 (Int.toNat v1)), D)
    )
  ) else 
  if v2 = 1 then (
    gd ((0 : Int) ≤ v1 ∧ v1 < (384 : Int)) (
    gd (InR (D.2 4 (Int.toNat v1))) (if (D.2 4 (Int.toNat v1)) = 0 then (
      some (.inl 0, D)
    ) else (
      some (.inl 1, D)
    ))
    )
  ) else 
  (
    some (.inr 1, D)
  ))
  )
noncomputable def m_X10_needZone (v1 : Int) (D : DT) : Option (Unit ⊕ Nat) :=
  gd (InR v1) (if 0 ≤ v1 then (
    gd (InR v1 ∧ InR (D.1 2 2)) (if (D.1 2 2) ≤ v1 then (
      some (.inr 0)
    ) else (
      some (.inl ())
    ))
  ) else (
    some (.inr 0)
  ))
noncomputable def m_X10_zone (v1 : Int) (v2 : Int) (D : DT) : Option ((Int ⊕ Nat) × DT) :=
  bndN (m_X10_needZone v1 D) D (
  gd (InR v2) (
  if v2 = 0 then (
    (m_X1_cellsOf 2 v1 D).bind (fun r52 =>
    some (.inl r52, D)
    )
  ) else 
  if v2 = 1 then (
    (m_X1_landOf 2 v1 D).bind (fun r64 =>
    some (.inl r64, D)
    )
  ) else 
  if v2 = 2 then (
    (m_X3_find 2 v1 D).bind (fun D80 =>
    some (.inl (D80.1 67 0), D80)
    )
  ) else 
  if v2 = 3 then (
    (m_X1_shoreOf 2 v1 D).bind (fun r99 =>
    some (.inl r99, D)
    )
  ) else 
  if v2 = 4 then (
    (m_X1_borderOf 2 v1 D).bind (fun r111 =>
    some (.inl r111, D)
    )
  ) else 
  if v2 = 5 then (
    (m_X1_allRunsOf 2 v1 D).bind (fun r123 =>
    some (.inl r123, D)
    )
  ) else 
  (
    some (.inr 1, D)
  ))
  )
noncomputable def m_X10_name (v1 : Int) (v2 : Int) (D : DT) : Option ((Int ⊕ Nat) × DT) :=
  bndN (m_X10_needZone v1 D) D (
  gd (InR v2) (if 0 ≤ v2 then (
    gd ((0 : Int) ≤ v1 ∧ v1 < (8 : Int)) (
    gd (InR v2 ∧ InR (D.2 9 (Int.toNat v1))) (if v2 < (D.2 9 (Int.toNat v1)) then (
      gd ((0 : Int) ≤ ((v1 * 6) + v2) ∧ ((v1 * 6) + v2) < (48 : Int)) (
      some (.inl (D.2 8 (Int.toNat ((v1 * 6) + v2))), D)
      )
    ) else (
      some (.inl (-1), D)
    ))
    )
  ) else (
    some (.inl (-1), D)
  ))
  )
noncomputable def m_X10_needGroup (v1 : Int) (D : DT) : Option (Unit ⊕ Nat) :=
  gd (InR v1) (if 0 ≤ v1 then (
    gd (InR v1 ∧ InR (D.1 2 3)) (if (D.1 2 3) ≤ v1 then (
      some (.inr 0)
    ) else (
      some (.inl ())
    ))
  ) else (
    some (.inr 0)
  ))
noncomputable def m_X10_numbersChanged (D : DT) : Option DT :=
  (m_X5_numbersChanged 1 D).bind (fun D4 =>
  (m_X4_forget D4).bind (fun D11 =>
  some D11
  ))
noncomputable def m_X10_people (v1 : Int) (v2 : Int) (v3 : Int) (D : DT) : Option ((Int ⊕ Nat) × DT) :=
  bndN (m_X10_needZone v1 D) D (
  bndN (m_X10_needGroup v2 D) D (
  gd (InR v3) (if 0 ≤ v3 then (
    gd (InR v3 ∧ InR 99999) (if 99999 < v3 then (
      some (.inr 2, D)
    ) else (
      (m_X1_livingIn 2 v1 v2 D).bind (fun r39 =>
      (m_X1_settle 2 v1 v2 v3 D).bind (fun D54 =>
      (m_X10_numbersChanged D54).bind (fun D58 =>
      some (.inl r39, D58)
      )))
    ))
  ) else (
    some (.inr 2, D)
  ))
  ))
noncomputable def m_X10_lives (v1 : Int) (v2 : Int) (D : DT) : Option ((Int ⊕ Nat) × DT) :=
  bndN (m_X10_needZone v1 D) D (
  bndN (m_X10_needGroup v2 D) D (
  (m_X1_livingIn 2 v1 v2 D).bind (fun r19 =>
  some (.inl r19, D)
  )))
noncomputable def m_X10_landChanged (v1 : Int) (D : DT) : Option DT :=
  (m_X5_landChanged 1 v1 D).bind (fun D5 =>
  (m_X4_forget D5).bind (fun D12 =>
  some D12
  ))
noncomputable def m_X10_flood (v1 : Int) (v2 : Int) (D : DT) : Option ((Int ⊕ Nat) × DT) :=
  bndN (m_X10_needCell v1 D) D (
  gd ((0 : Int) ≤ v1 ∧ v1 < (384 : Int)) (
  gd (InR (D.2 4 (Int.toNat v1)) ∧ InR v2) (if (D.2 4 (Int.toNat v1)) = v2 then (
    some (.inl 0, D)
  ) else (
    gd (((0 : Int) ≤ v1 ∧ v1 < (384 : Int)) ∧ ((v2 : Int) = 0 ∨ (v2 : Int) = 1)) (sq (sA D 4 (Int.toNat v1) v2) (fun D35 =>
    gd ((0 : Int) ≤ v1 ∧ v1 < (384 : Int)) (
    (m_X10_landChanged (D35.2 3 (Int.toNat v1)) D35).bind (fun D49 =>
    some (.inl 1, D49)
    ))))
  ))
  ))
noncomputable def m_X10_unit (v1 : Int) (D : DT) : Option ((Int ⊕ Nat) × DT) :=
  gd (InR v1 ∧ InR 1) (if 1 ≤ v1 then (
    gd (InR v1 ∧ InR 9999) (if 9999 < v1 then (
      some (.inr 2, D)
    ) else (
      sq (sF D 1 1 v1) (fun D35 =>
      (m_X10_numbersChanged D35).bind (fun D39 =>
      some (.inl (D.1 1 1), D39)
      ))
    ))
  ) else (
    some (.inr 2, D)
  ))
noncomputable def m_X10_factor (v1 : Int) (D : DT) : Option ((Int ⊕ Nat) × DT) :=
  gd (InR v1 ∧ InR 2) (if 2 ≤ v1 then (
    gd (InR v1 ∧ InR 10) (if 10 < v1 then (
      some (.inr 2, D)
    ) else (
      sq (sF D 1 2 v1) (fun D34 =>
      (m_X10_numbersChanged D34).bind (fun D38 =>
      some (.inl (D.1 1 2), D38)
      ))
    ))
  ) else (
    some (.inr 2, D)
  ))
noncomputable def m_X10_order (v1 : Int) (v2 : Int) (D : DT) : Option ((Int ⊕ Nat) × DT) :=
  bndN (m_X10_needZone v1 D) D (
  gd (InR v2) (if 0 ≤ v2 then (
    (m_X5_tallied 1 D).bind (fun D14 =>
    gd ((0 : Int) ≤ v1 ∧ v1 < (8 : Int)) (
    gd (InR v2 ∧ InR (D14.2 11 (Int.toNat v1))) (if v2 < (D14.2 11 (Int.toNat v1)) then (
      (m_X5_ranked 1 D14).bind (fun D29 =>
      (m_X6_cellAt 15 v1 v2 D29).bind (fun r34 =>
      some (.inl r34, D29)
      ))
    ) else (
      some (.inl (-1), D14)
    ))
    ))
  ) else (
    some (.inl (-1), D)
  ))
  )
noncomputable def m_X10_stands (v1 : Int) (D : DT) : Option ((Int ⊕ Nat) × DT) :=
  bndN (m_X10_needCell v1 D) D (
  (m_X5_ranked 1 D).bind (fun D9 =>
  gd ((0 : Int) ≤ v1 ∧ v1 < (384 : Int)) (
  some (.inl (D9.2 16 (Int.toNat v1)), D9)
  )))
noncomputable def m_X10_needLevel (v1 : Int) (D : DT) : Option (Unit ⊕ Nat) :=
  gd (InR v1) (if 0 ≤ v1 then (
    gd (InR v1 ∧ InR 5) (if 5 ≤ v1 then (
      some (.inr 0)
    ) else (
      some (.inl ())
    ))
  ) else (
    some (.inr 0)
  ))
noncomputable def m_X10_dots (v1 : Int) (v2 : Int) (v3 : Int) (D : DT) : Option ((Int ⊕ Nat) × DT) :=
  bndN (m_X10_needZone v1 D) D (
  bndN (m_X10_needGroup v2 D) D (
  bndN (m_X10_needLevel v3 D) D (
  (m_X5_tallied 1 D).bind (fun D19 =>
  (m_X8_dotsOf 10 v1 v2 v3 D19).bind (fun r25 =>
  some (.inl r25, D19)
  )))))
noncomputable def m_X10_carried (v1 : Int) (v2 : Int) (v3 : Int) (D : DT) : Option ((Int ⊕ Nat) × DT) :=
  bndN (m_X10_needZone v1 D) D (
  bndN (m_X10_needGroup v2 D) D (
  bndN (m_X10_needLevel v3 D) D (
  (m_X5_tallied 1 D).bind (fun D19 =>
  (m_X8_broughtTo 10 v1 v2 v3 D19).bind (fun r25 =>
  some (.inl r25, D19)
  )))))
noncomputable def m_X10_left (v1 : Int) (v2 : Int) (D : DT) : Option ((Int ⊕ Nat) × DT) :=
  bndN (m_X10_needGroup v1 D) D (
  bndN (m_X10_needLevel v2 D) D (
  (m_X5_tallied 1 D).bind (fun D14 =>
  (m_X8_restOf 10 v1 v2 D14).bind (fun r19 =>
  some (.inl r19, D14)
  ))))
noncomputable def m_X10_needGroupOrNone (v1 : Int) (D : DT) : Option (Unit ⊕ Nat) :=
  gd (InR v1 ∧ InR (-1)) (if v1 = (-1) then (
    some (.inl ())
  ) else (
    bndM (m_X10_needGroup v1 D) (
    some (.inl ())
    )
  ))
noncomputable def m_X10_all (v1 : Int) (v2 : Int) (D : DT) : Option ((Int ⊕ Nat) × DT) :=
  bndN (m_X10_needGroupOrNone v1 D) D (
  bndN (m_X10_needLevel v2 D) D (
  gd (InR v1 ∧ InR (-1)) (if v1 = (-1) then (
    (m_X5_tallied 1 D).bind (fun D19 =>
    (m_X8_sumOfLevel 10 v2 D19).bind (fun r23 =>
    some (.inl r23, D19)
    ))
  ) else (
    (m_X5_tallied 1 D).bind (fun D33 =>
    (m_X8_sumOfGroup 10 v1 v2 D33).bind (fun r38 =>
    some (.inl r38, D33)
    ))
  ))
  ))
noncomputable def m_X10_dot (v1 : Int) (v2 : Int) (v3 : Int) (v4 : Int) (D : DT) : Option ((Int ⊕ Nat) × DT) :=
  bndN (m_X10_needZone v1 D) D (
  bndN (m_X10_needGroup v2 D) D (
  bndN (m_X10_needLevel v3 D) D (
  (m_X5_tallied 1 D).bind (fun D19 =>
  gd ((0 : Int) ≤ v1 ∧ v1 < (8 : Int)) (
  gd (InR v4) (if 0 ≤ v4 then (
    (m_X5_tallied 1 D19).bind (fun D40 =>
    (m_X8_dotsOf 10 v1 v2 v3 D40).bind (fun r46 =>
    gd (InR v4 ∧ InR r46) (if v4 < r46 then (
      gd (InR (D19.2 11 (Int.toNat v1)) ∧ InR 1) (if (D19.2 11 (Int.toNat v1)) < 1 then (
        some (.inr 1, D40)
      ) else (
        (m_X5_ranked 1 D40).bind (fun D72 =>
        gd ((0 : Int) ≤ ((v4 * (D72.1 2 3)) + v2) ∧ ((v4 * (D72.1 2 3)) + v2) ≤ (2147483647 : Int) ∧ (0 : Int) < (D19.2 11 (Int.toNat v1)) ∧ (D19.2 11 (Int.toNat v1)) ≤ (2147483647 : Int)) (
        (m_X6_cellAt 15 v1 (((v4 * (D72.1 2 3)) + v2) % (D19.2 11 (Int.toNat v1))) D72).bind (fun r94 =>
        some (.inl r94, D72)
        )))
      ))
    ) else (
      some (.inr 1, D40)
    ))
    ))
  ) else (
    some (.inr 1, D19)
  ))
  )))))
noncomputable def m_X10_crowd (v1 : Int) (v2 : Int) (v3 : Int) (D : DT) : Option ((Int ⊕ Nat) × DT) :=
  bndN (m_X10_needCell v1 D) D (
  bndN (m_X10_needGroupOrNone v2 D) D (
  bndN (m_X10_needLevel v3 D) D (
  (m_X5_crowded 1 v3 D).bind (fun D20 =>
  (m_X2_weightOf 23 v1 v2 D20).bind (fun r25 =>
  some (.inl r25, D20)
  )))))
noncomputable def m_X10_apart (v1 : Int) (D : DT) : Option ((Int ⊕ Nat) × DT) :=
  bndN (m_X10_needLevel v1 D) D (
  (m_X5_crowded 1 v1 D).bind (fun D10 =>
  (m_X2_leastGap 23 2 D10).bind (fun r20 =>
  some (.inl r20, D10)
  )))
noncomputable def m_X10_off (v1 : Int) (v2 : Int) (D : DT) : Option ((Int ⊕ Nat) × DT) :=
  bndN (m_X10_needZone v1 D) D (
  bndN (m_X10_needGroup v2 D) D (
  (m_X5_tallied 1 D).bind (fun D14 =>
  (m_X8_dotsOf 10 v1 v2 0 D14).bind (fun r20 =>
  (m_X1_livingIn 2 v1 v2 D14).bind (fun r40 =>
  some (.inl ((r20 * (D14.1 1 1)) - r40), D14)
  )))))
noncomputable def m_X10_needRow (v1 : Int) (D : DT) : Option (Unit ⊕ Nat) :=
  gd (InR v1) (if 0 ≤ v1 then (
    gd (InR v1 ∧ InR (D.1 2 1)) (if (D.1 2 1) ≤ v1 then (
      some (.inr 0)
    ) else (
      some (.inl ())
    ))
  ) else (
    some (.inr 0)
  ))
noncomputable def m_X10_needTwo (v1 : Int) (v2 : Int) (D : DT) : Option (Unit ⊕ Nat) :=
  gd (InR v1 ∧ InR v2) (if v1 = v2 then (
    some (.inr 2)
  ) else (
    some (.inl ())
  ))
noncomputable def m_X10_needEdge (v1 : Int) (v2 : Int) (v3 : Int) (v4 : Int) (D : DT) : Option (Unit ⊕ Nat) :=
  bndM (m_X10_needTwo v1 v2 D) (
  gd (InR v3) (if 0 ≤ v3 then (
    gd (InR v3 ∧ InR v4) (if v3 ≤ v4 then (
      gd (InR v4 ∧ InR (D.1 2 0)) (if (D.1 2 0) ≤ v4 then (
        some (.inr 2)
      ) else (
        some (.inl ())
      ))
    ) else (
      some (.inr 2)
    ))
  ) else (
    some (.inr 2)
  ))
  )
noncomputable def m_X10_move (v1 : Int) (v2 : Int) (v3 : Int) (v4 : Int) (v5 : Int) (D : DT) : Option ((Int ⊕ Nat) × DT) :=
  bndN (m_X10_needZone v1 D) D (
  bndN (m_X10_needZone v2 D) D (
  bndN (m_X10_needRow v3 D) D (
  bndN (m_X10_needEdge v1 v2 v4 v5 D) D (
  bnd (m_X1_shift 2 v1 v2 v3 v4 v5 D) (fun r39 D39 =>
  (m_X10_landChanged v1 D39).bind (fun D46 =>
  (m_X10_landChanged v2 D46).bind (fun D51 =>
  some (.inl r39, D51)
  )))))))
noncomputable def m_X10_tries (v1 : Int) (v2 : Int) (v3 : Int) (v4 : Int) (v5 : Int) (v6 : Int) (D : DT) : Option ((Int ⊕ Nat) × DT) :=
  bndN (m_X10_needZone v1 D) D (
  bndN (m_X10_needZone v2 D) D (
  bndN (m_X10_needRow v3 D) D (
  bndN (m_X10_needLevel v6 D) D (
  bndN (m_X10_needEdge v1 v2 v4 v5 D) D (
  (m_X5_ranked 1 D).bind (fun D35 =>
  (m_X5_copyFrom 28 1 D35).bind (fun D47 =>
  bnd (m_X1_shift 29 v1 v2 v3 v4 v5 D47) (fun r64 D64 =>
  (m_X5_landChanged 28 v1 D64).bind (fun D73 =>
  (m_X5_landChanged 28 v2 D73).bind (fun D81 =>
  (m_X5_crowded 28 v6 D81).bind (fun D90 =>
  (m_X5_crowded 1 v6 D90).bind (fun D99 =>
  (m_X2_moreThan 50 23 2 D99).bind (fun r109 =>
  some (.inl r109, D99)
  )))))))))))))
noncomputable def m_X10_run (v1 : Int) (v2 : Int) (v3 : Int) (v4 : Int) (D : DT) : Option ((Int ⊕ Nat) × DT) :=
  bndN (m_X10_needZone v1 D) D (
  bndN (m_X10_needRow v2 D) D (
  gd (InR v3 ∧ InR (-1)) (if v3 = (-1) then (
    (m_X1_runsOf 2 v1 v2 D).bind (fun r24 =>
    some (.inl r24, D)
    )
  ) else (
    (m_X1_runEdge 2 v1 v2 v3 v4 D).bind (fun r42 =>
    some (.inl r42, D)
    )
  ))
  ))
noncomputable def m_X10_part (v1 : Int) (D : DT) : Option ((Int ⊕ Nat) × DT) :=
  bndN (m_X10_needCell v1 D) D (
  (m_X1_isLand 2 v1 D).bind (fun r13 =>
  gd (InR r13) (if r13 = 0 then (
    some (.inl (-1), D)
  ) else (
    gd ((0 : Int) ≤ v1 ∧ v1 < (384 : Int)) (
    (m_X3_find 2 (D.2 3 (Int.toNat v1)) D).bind (fun D44 =>
    gd ((0 : Int) ≤ v1 ∧ v1 < (384 : Int)) (
    some (.inl (D44.2 68 (Int.toNat v1)), D44)
    )))
  ))
  ))
noncomputable def m_X10_needMeasure (v1 : Int) (D : DT) : Option (Unit ⊕ Nat) :=
  gd (InR v1) (if 0 ≤ v1 then (
    gd (InR v1 ∧ InR 5) (if 5 ≤ v1 then (
      some (.inr 1)
    ) else (
      some (.inl ())
    ))
  ) else (
    some (.inr 1)
  ))
noncomputable def m_X10_needFar (v1 : Int) (D : DT) : Option (Unit ⊕ Nat) :=
  gd (InR v1) (if 0 ≤ v1 then (
    gd (InR v1 ∧ InR 999) (if 999 < v1 then (
      some (.inr 2)
    ) else (
      some (.inl ())
    ))
  ) else (
    some (.inr 2)
  ))
noncomputable def m_X10_measure (v1 : Int) (v2 : Int) (v3 : Int) (v4 : Int) (D : DT) : Option ((Int ⊕ Nat) × DT) :=
  bndN (m_X10_needCell v1 D) D (
  bndN (m_X10_needLevel v3 D) D (
  bndN (m_X10_needMeasure v2 D) D (
  bndN (m_X10_needFar v4 D) D (
  (m_X5_crowded 1 v3 D).bind (fun D26 =>
  (m_X2_gauge 23 2 v1 v2 v4 D26).bind (fun r40 =>
  some (.inl r40, D26)
  ))))))
noncomputable def m_X10_best (v1 : Int) (v2 : Int) (v3 : Int) (D : DT) : Option ((Int ⊕ Nat) × DT) :=
  bndN (m_X10_needLevel v2 D) D (
  bndN (m_X10_needMeasure v1 D) D (
  bndN (m_X10_needFar v3 D) D (
  (m_X5_crowded 1 v2 D).bind (fun D20 =>
  (m_X2_topCell 23 2 v1 v3 D20).bind (fun r32 =>
  some (.inl r32, D20)
  )))))
noncomputable def m_X10_nearest (v1 : Int) (v2 : Int) (D : DT) : Option ((Int ⊕ Nat) × DT) :=
  bndN (m_X10_needCell v1 D) D (
  bndN (m_X10_needLevel v2 D) D (
  (m_X5_crowded 1 v2 D).bind (fun D15 =>
  (m_X2_nextSpot 23 2 v1 D15).bind (fun r26 =>
  some (.inl r26, D15)
  ))))
noncomputable def m_X10_served (v1 : Int) (v2 : Int) (D : DT) : Option ((Int ⊕ Nat) × DT) :=
  bndN (m_X10_needCell v1 D) D (
  bndN (m_X10_needLevel v2 D) D (
  (m_X5_crowded 1 v2 D).bind (fun D15 =>
  (m_X2_clientsOf 23 2 v1 D15).bind (fun r26 =>
  some (.inl r26, D15)
  ))))
noncomputable def m_X10_bringPath (v1 : Int) (v2 : Int) (v3 : Int) (D : DT) : Option DT :=
  (m_X4_isOf v1 v2 v3 D).bind (fun r7 =>
  gd (InR r7) (if r7 = 0 then (
    (m_X5_crowded 1 v2 D).bind (fun D29 =>
    (m_X4_follow 2 23 v1 v3 D29).bind (fun D34 =>
    (m_X4_keepAs v1 v2 v3 D34).bind (fun D44 =>
    some D44
    )))
  ) else (
    some D
  ))
  )
noncomputable def m_X10_countOrStop (v1 : Int) (D : DT) : Option Int :=
  gd (InR v1 ∧ InR (-1)) (if v1 = (-1) then (
    some (D.1 70 0)
  ) else (
    (m_X4_stopAt v1 D).bind (fun r20 =>
    some r20
    )
  ))
noncomputable def m_X10_thinned (v1 : Int) (v2 : Int) (v3 : Int) (D : DT) : Option ((Int ⊕ Nat) × DT) :=
  bndN (m_X10_needLevel v1 D) D (
  bndN (m_X10_needFar v2 D) D (
  (m_X10_bringPath 0 v1 v2 D).bind (fun D14 =>
  (m_X10_countOrStop v3 D14).bind (fun r19 =>
  some (.inl r19, D14)
  ))))
noncomputable def m_X10_tour (v1 : Int) (v2 : Int) (D : DT) : Option ((Int ⊕ Nat) × DT) :=
  bndN (m_X10_needLevel v1 D) D (
  (m_X10_bringPath 1 v1 0 D).bind (fun D9 =>
  (m_X10_countOrStop v2 D9).bind (fun r14 =>
  some (.inl r14, D9)
  )))
noncomputable def m_X10_way (v1 : Int) (D : DT) : Option ((Int ⊕ Nat) × DT) :=
  bndN (m_X10_needLevel v1 D) D (
  (m_X10_bringPath 1 v1 0 D).bind (fun D9 =>
  some (.inl (D9.1 70 1), D9)
  ))
noncomputable def m_X10_hull (v1 : Int) (v2 : Int) (D : DT) : Option ((Int ⊕ Nat) × DT) :=
  bndN (m_X10_needLevel v1 D) D (
  (m_X10_bringPath 2 v1 0 D).bind (fun D9 =>
  (m_X10_countOrStop v2 D9).bind (fun r14 =>
  some (.inl r14, D9)
  )))
noncomputable def m_X10_area (v1 : Int) (D : DT) : Option ((Int ⊕ Nat) × DT) :=
  bndN (m_X10_needLevel v1 D) D (
  (m_X10_bringPath 2 v1 0 D).bind (fun D9 =>
  (m_X4_doubleArea 2 D9).bind (fun r23 =>
  some (.inl r23, D9)
  )))
noncomputable def m_X10_middle (v1 : Int) (v2 : Int) (D : DT) : Option ((Int ⊕ Nat) × DT) :=
  bndN (m_X10_needGroupOrNone v1 D) D (
  bndN (m_X10_needLevel v2 D) D (
  (m_X5_crowded 1 v2 D).bind (fun D15 =>
  bnd (m_X2_centralCell 23 2 v1 D15) (fun r26 D26 =>
  some (.inl r26, D26)
  ))))
noncomputable def m_X10_line_32 (v1 : Int) (v2 : Int) (v3 : Int) (x0 : Int) (x1 : Int) (D : DT) : Option ((Int ⊕ Nat) × DT) :=
  gd (InR x1 ∧ InR x0) (if x0 ≤ x1 then (
    some (.inr 0, D)
  ) else (
    bndN (m_X10_needLevel v3 D) D (
    gd (InR v1) (if v1 = 0 then (
      (m_X5_crowded 1 v3 D).bind (fun D82 =>
      (m_X2_sumOfRow 23 2 v2 D82).bind (fun r93 =>
      some (.inl r93, D82)
      ))
    ) else (
      (m_X5_crowded 1 v3 D).bind (fun D60 =>
      (m_X2_sumOfColumn 23 2 v2 D60).bind (fun r71 =>
      some (.inl r71, D60)
      ))
    ))
    )
  ))
noncomputable def m_X10_line (v1 : Int) (v2 : Int) (v3 : Int) (D : DT) : Option ((Int ⊕ Nat) × DT) :=
  gd (InR v2) (if 0 ≤ v2 then (
    gd (InR v1) (if v1 = 0 then (
      m_X10_line_32 v1 v2 v3 (D.1 2 1) v2 D
    ) else (
      m_X10_line_32 v1 v2 v3 (D.1 2 0) v2 D
    ))
  ) else (
    some (.inr 0, D)
  ))
noncomputable def m_X10_joined (v1 : Int) (v2 : Int) (v3 : Int) (D : DT) : Option ((Int ⊕ Nat) × DT) :=
  bndN (m_X10_needZone v1 D) D (
  bndN (m_X10_needZone v2 D) D (
  bndN (m_X10_needLevel v3 D) D (
  bndN (m_X10_needTwo v1 v2 D) D (
  (m_X5_copyFrom 28 1 D).bind (fun D29 =>
  (m_X1_join 29 v1 v2 D29).bind (fun D41 =>
  (m_X5_landChanged 28 v1 D41).bind (fun D49 =>
  (m_X5_landChanged 28 v2 D49).bind (fun D57 =>
  (m_X5_tallied 28 D57).bind (fun D64 =>
  (m_X8_sumOfZone 37 v1 v3 D64).bind (fun r69 =>
  some (.inl r69, D64)
  ))))))))))
noncomputable def m_X10_fits_38 (v1 : Int) (D : DT) (s : (Int × Int × Int)) : Option (Int × DT) := loopF (fun s =>
  gd (InR s.1 ∧ InR s.2.1) (if s.1 < s.2.1 then (
    gd (InR s.2.2 ∧ InR 9999) (if s.2.2 < 9999 then (
      gd ((0 : Int) ≤ (s.1 + s.2.1) ∧ (s.1 + s.2.1) ≤ (2147483647 : Int) ∧ (0 : Int) < 2 ∧ 2 ≤ (2147483647 : Int)) (
      (m_X8_sumWithUnit 10 2 ((s.1 + s.2.1) / 2) D).bind (fun r70 =>
      gd (InR r70 ∧ InR v1) (if v1 < r70 then (
        some (.inl ((((s.1 + s.2.1) / 2) + 1), s.2.1, (s.2.2 + 1)))
      ) else (
        some (.inl (s.1, ((s.1 + s.2.1) / 2), (s.2.2 + 1)))
      ))
      ))
    ) else (
      done (
      some (s.1, D)
      )
    ))
  ) else (
    done (
    some (s.1, D)
    )
  ))) s
noncomputable def m_X10_fits (v1 : Int) (D : DT) : Option (Int × DT) :=
  (m_X5_tallied 1 D).bind (fun D4 =>
  (m_X8_sumWithUnit 10 2 9999 D4).bind (fun r19 =>
  gd (InR r19 ∧ InR v1) (if v1 < r19 then (
    some ((-1), D4)
  ) else (
    m_X10_fits_38 v1 D4 (1, 9999, 0)
  ))
  ))
noncomputable def m_X10_scale_2 (v1 : Int) (s : (Int × DT)) : Option (Int × DT) := loopF (fun s =>
  gd (InR s.1 ∧ InR 5) (if s.1 < 5 then (
    (m_X5_tallied 1 s.2).bind (fun D11 =>
    (m_X8_sumOfLevel 10 s.1 D11).bind (fun r15 =>
    gd (InR r15 ∧ InR v1) (if r15 ≤ v1 then (
      done (
      some (s.1, D11)
      )
    ) else (
      some (.inl ((s.1 + 1), D11))
    ))
    ))
  ) else (
    done (
    some ((-1), s.2)
    )
  ))) s
noncomputable def m_X10_scale (v1 : Int) (D : DT) : Option (Int × DT) :=
  m_X10_scale_2 v1 (0, D)
noncomputable def m_X10_write (v1 : Int) (D : DT) : Option ((Int ⊕ Nat) × DT) :=
  bndN (m_X10_needZone v1 D) D (
  (m_X7_writeZone 2 v1 D).bind (fun D17 =>
  some (.inl (D17.1 65 0), D17)
  ))
noncomputable def m_X10_octet (v1 : Int) (D : DT) : Option Int :=
  gd (InR v1) (if 0 ≤ v1 then (
    gd (InR v1 ∧ InR (D.1 65 0)) (if v1 < (D.1 65 0) then (
      gd ((0 : Int) ≤ v1 ∧ v1 < (1600 : Int)) (
      some (D.2 66 (Int.toNat v1))
      )
    ) else (
      some (-1)
    ))
  ) else (
    some (-1)
  ))
noncomputable def m_X10_count (v1 : Int) (D : DT) : Option Int :=
  gd (InR v1) (
  if v1 = 0 then (
    some (D.1 2 0)
  ) else 
  if v1 = 1 then (
    some (D.1 2 1)
  ) else 
  if v1 = 2 then (
    some (D.1 2 2)
  ) else 
  if v1 = 3 then (
    some (D.1 2 3)
  ) else 
  if v1 = 4 then (
    (m_X1_seaCells 2 D).bind (fun r111 =>
    some r111
    )
  ) else 
  if v1 = 5 then (
    (m_X1_landCells 2 D).bind (fun r122 =>
    some r122
    )
  ) else 
  if v1 = 6 then (
    (m_X1_freeCells 2 D).bind (fun r133 =>
    some r133
    )
  ) else 
  if v1 = 7 then (
    some (D.1 1 1)
  ) else 
  if v1 = 8 then (
    some (D.1 1 2)
  ) else 
  if v1 = 9 then (
    some (D.1 65 0)
  ) else 
  if v1 = 10 then (
    (m_X1_everybody 2 D).bind (fun r168 =>
    some r168
    )
  ) else 
  (
    some (-1)
  ))
noncomputable def m_X11_thrown (D : DT) : Option Int :=
  some (D.1 73 0)
noncomputable def m_X11_throwsIf (v1 : Int) (v2 : Int) (D : DT) : Option (Int × DT) :=
  gd (InR v1) (if v1 = 0 then (
    gd (v1 = 0 ∨ v1 = 1) (some (v1, D))
  ) else (
    sq (sF D 73 0 v2) (fun D6 =>
    gd (v1 = 0 ∨ v1 = 1) (some (v1, D6))
    )
  ))
noncomputable def m_X11_in (v0 : Int) (v1 : Int) (v2 : Int) (D : DT) : Option Int :=
  gd (InR v0 ∧ InR v1) (if v1 ≤ v0 then (
    gd (InR v0 ∧ InR v2) (if v0 ≤ v2 then (
      some 1
    ) else (
      some 0
    ))
  ) else (
    some 0
  ))
noncomputable def m_X11_feed_60 (s : (Int × DT)) : Option (Int × DT) := loopF (fun s =>
  gd (InR s.1 ∧ InR 20) (if s.1 < 20 then (
    gd ((0 : Int) ≤ s.1 ∧ s.1 ≤ (2147483647 : Int) ∧ (0 : Int) < 4 ∧ 4 ≤ (2147483647 : Int)) (
    gd ((0 : Int) ≤ (s.1 / 4) ∧ (s.1 / 4) < (5 : Int)) (
    gd ((0 : Int) ≤ s.1 ∧ s.1 ≤ (2147483647 : Int) ∧ (0 : Int) < 4 ∧ 4 ≤ (2147483647 : Int)) (
    gd (((0 : Int) ≤ ((s.2.1 73 2) + s.1) ∧ ((s.2.1 73 2) + s.1) < (400 : Int)) ∧ ((-128 : Int) ≤ (i2b (shr (s.2.2 75 (Int.toNat (s.1 / 4))) (24 - (8 * (s.1 % 4))))) ∧ (i2b (shr (s.2.2 75 (Int.toNat (s.1 / 4))) (24 - (8 * (s.1 % 4))))) ≤ (127 : Int))) (sq (sA s.2 74 (Int.toNat ((s.2.1 73 2) + s.1)) (i2b (shr (s.2.2 75 (Int.toNat (s.1 / 4))) (24 - (8 * (s.1 % 4)))))) (fun D99 =>
    some (.inl ((s.1 + 1), D99))
    )))))
  ) else (
    done (
    sq (sF s.2 73 2 ((s.2.1 73 2) + 20)) (fun D114 =>
    some ((D114.1 73 2), D114)
    )
    )
  ))) s
noncomputable def m_X11_feed (v1 : Int) (v2 : Int) (v3 : Int) (v4 : Int) (v5 : Int) (D : DT) : Option (Int × DT) :=
  sq (sF D 73 0 0) (fun D2 =>
  gd (InR ((D2.1 73 2) + 20) ∧ InR 400) (if 400 < ((D2.1 73 2) + 20) then (
    some ((-1), D2)
  ) else (
    gd ((0 : Int) ≤ 0 ∧ 0 < (5 : Int)) (sq (sA D2 75 (Int.toNat 0) v1) (fun D26 =>
    gd ((0 : Int) ≤ 1 ∧ 1 < (5 : Int)) (sq (sA D26 75 (Int.toNat 1) v2) (fun D33 =>
    gd ((0 : Int) ≤ 2 ∧ 2 < (5 : Int)) (sq (sA D33 75 (Int.toNat 2) v3) (fun D40 =>
    gd ((0 : Int) ≤ 3 ∧ 3 < (5 : Int)) (sq (sA D40 75 (Int.toNat 3) v4) (fun D48 =>
    gd ((0 : Int) ≤ 4 ∧ 4 < (5 : Int)) (sq (sA D48 75 (Int.toNat 4) v5) (fun D56 =>
    m_X11_feed_60 (0, D56)
    ))))))))))
  ))
  )
noncomputable def m_X11_end (v1 : Int) (D : DT) : Option (Int × DT) :=
  sq (sF D 73 0 0) (fun D2 =>
  gd (InR v1) (if 0 ≤ v1 then (
    gd (InR v1 ∧ InR (D2.1 73 2)) (if (D2.1 73 2) < v1 then (
      some (0, D2)
    ) else (
      sq (sF D2 73 2 v1) (fun D21 =>
      some (1, D21)
      )
    ))
  ) else (
    some (0, D2)
  ))
  )
noncomputable def m_X11_hasFailed (D : DT) : Option Int :=
  gd (InR (D.1 73 19) ∧ InR (-1)) (if (D.1 73 19) = (-1) then (
    some 0
  ) else (
    some 1
  ))
noncomputable def m_X11_isAt (v1 : Int) (v2 : Int) (D : DT) : Option Int :=
  gd (InR (D.1 73 16) ∧ InR (D.1 73 18)) (if (D.1 73 16) < (D.1 73 18) then (
    gd ((0 : Int) ≤ (D.1 73 16) ∧ (D.1 73 16) < (400 : Int)) (
    gd (InR (D.2 74 (Int.toNat (D.1 73 16))) ∧ InR v1) (if v1 ≤ (D.2 74 (Int.toNat (D.1 73 16))) then (
      gd ((0 : Int) ≤ (D.1 73 16) ∧ (D.1 73 16) < (400 : Int)) (
      gd (InR (D.2 74 (Int.toNat (D.1 73 16))) ∧ InR v2) (if (D.2 74 (Int.toNat (D.1 73 16))) ≤ v2 then (
        some 1
      ) else (
        some 0
      ))
      )
    ) else (
      some 0
    ))
    )
  ) else (
    some 0
  ))
noncomputable def m_X11_blanks_0 (s : DT) : Option DT := loopF (fun s =>
  (m_X11_isAt 9 10 s).bind (fun r5 =>
  gd (InR r5) (if r5 = 0 then (
    (m_X11_isAt 32 32 s).bind (fun r16 =>
    gd (InR r16) (if r16 = 0 then (
      done (
      sq (sF s 73 17 (s.1 73 16)) (fun D40 =>
      some D40
      )
      )
    ) else (
      sq (sF s 73 16 ((s.1 73 16) + 1)) (fun D29 =>
      some (.inl D29)
      )
    ))
    )
  ) else (
    sq (sF s 73 16 ((s.1 73 16) + 1)) (fun D29 =>
    some (.inl D29)
    )
  ))
  )) s
noncomputable def m_X11_blanks (D : DT) : Option DT :=
  m_X11_blanks_0 D
noncomputable def m_X11_failsAt (v1 : Int) (D : DT) : Option DT :=
  gd (InR (D.1 73 19) ∧ InR (-1)) (if (D.1 73 19) = (-1) then (
    sq (sF D 73 19 v1) (fun D10 =>
    some D10
    )
  ) else (
    some D
  ))
noncomputable def m_X11_takes (v1 : Int) (D : DT) : Option (Int × DT) :=
  (m_X11_blanks D).bind (fun D1 =>
  (m_X11_hasFailed D1).bind (fun r5 =>
  gd (InR r5) (if r5 = 0 then (
    (m_X11_isAt v1 v1 D1).bind (fun r14 =>
    gd (InR r14) (if r14 = 0 then (
      some (0, D1)
    ) else (
      sq (sF D1 73 16 ((D1.1 73 16) + 1)) (fun D29 =>
      some (1, D29)
      )
    ))
    )
  ) else (
    some (0, D1)
  ))
  ))
noncomputable def m_X11_asks (v1 : Int) (D : DT) : Option DT :=
  (m_X11_hasFailed D).bind (fun r1 =>
  gd (InR r1) (if r1 = 0 then (
    bnd (m_X11_takes v1 D) (fun r9 D9 =>
    gd (InR r9) (if r9 = 0 then (
      (m_X11_failsAt (D9.1 73 17) D9).bind (fun D20 =>
      some D20
      )
    ) else (
      some D9
    ))
    )
  ) else (
    some D
  ))
  )
noncomputable def m_X11_wordMany_9 (D : DT) (s : Int) : Option (Int × DT) := loopF (fun s =>
  gd (InR s ∧ InR (D.1 73 18)) (if s < (D.1 73 18) then (
    gd ((0 : Int) ≤ s ∧ s < (400 : Int)) (
    gd (InR (D.2 74 (Int.toNat s)) ∧ InR 97) (if 97 ≤ (D.2 74 (Int.toNat s)) then (
      gd ((0 : Int) ≤ s ∧ s < (400 : Int)) (
      gd (InR (D.2 74 (Int.toNat s)) ∧ InR 122) (if (D.2 74 (Int.toNat s)) ≤ 122 then (
        some (.inl (s + 1))
      ) else (
        done (
        some ((s - (D.1 73 16)), D)
        )
      ))
      )
    ) else (
      done (
      some ((s - (D.1 73 16)), D)
      )
    ))
    )
  ) else (
    done (
    some ((s - (D.1 73 16)), D)
    )
  ))) s
noncomputable def m_X11_wordMany (D : DT) : Option (Int × DT) :=
  (m_X11_blanks D).bind (fun D1 =>
  m_X11_wordMany_9 D1 (D1.1 73 16)
  )
noncomputable def m_X11_isWord_26 (t1 : Nat) (D : DT) (s : (Int × Int)) : Option (Int × DT) := loopF (fun s =>
  gd (InR s.1) (if s.1 = 0 then (
    done (
    gd (s.1 = 0 ∨ s.1 = 1) (some (s.1, D))
    )
  ) else (
    gd (InR s.2 ∧ InR (strL t1)) (if s.2 < (strL t1) then (
      gd ((0 : Int) ≤ ((D.1 73 16) + s.2) ∧ ((D.1 73 16) + s.2) < (400 : Int)) (
      gd (0 ≤ s.2 ∧ s.2 < strL t1) (
      gd (InR (D.2 74 (Int.toNat ((D.1 73 16) + s.2))) ∧ InR (strC t1 (Int.toNat s.2))) (if (D.2 74 (Int.toNat ((D.1 73 16) + s.2))) = (strC t1 (Int.toNat s.2)) then (
        some (.inl (1, (s.2 + 1)))
      ) else (
        some (.inl (0, (s.2 + 1)))
      ))
      ))
    ) else (
      done (
      gd (s.1 = 0 ∨ s.1 = 1) (some (s.1, D))
      )
    ))
  ))) s
noncomputable def m_X11_isWord (t1 : Nat) (D : DT) : Option (Int × DT) :=
  (m_X11_hasFailed D).bind (fun r1 =>
  gd (InR r1) (if r1 = 0 then (
    bnd (m_X11_wordMany D) (fun r8 D8 =>
    gd (InR r8 ∧ InR (strL t1)) (if r8 = (strL t1) then (
      m_X11_isWord_26 t1 D8 (1, 0)
    ) else (
      m_X11_isWord_26 t1 D8 (0, 0)
    ))
    )
  ) else (
    m_X11_isWord_26 t1 D (0, 0)
  ))
  )
noncomputable def m_X11_asksWord (t1 : Nat) (D : DT) : Option DT :=
  (m_X11_hasFailed D).bind (fun r1 =>
  gd (InR r1) (if r1 = 0 then (
    bnd (m_X11_isWord t1 D) (fun r10 D10 =>
    gd (InR r10) (if r10 = 0 then (
      (m_X11_failsAt (D10.1 73 17) D10).bind (fun D37 =>
      some D37
      )
    ) else (
      sq (sF D10 73 16 ((D10.1 73 16) + (strL t1))) (fun D26 =>
      some D26
      )
    ))
    )
  ) else (
    some D
  ))
  )
noncomputable def m_X11_isName_80 (D : DT) : Option (Int × DT) :=
  some (0, D)
noncomputable def m_X11_isName (D : DT) : Option (Int × DT) :=
  bnd (m_X11_wordMany D) (fun r1 D1 =>
  (m_X11_hasFailed D1).bind (fun r6 =>
  gd (InR r6) (if r6 = 0 then (
    gd (InR r1) (if 0 < r1 then (
      gd (InR r1 ∧ InR 6) (if r1 ≤ 6 then (
        bnd (m_X11_isWord 13 D1) (fun r25 D25 =>
        gd (InR r25) (if r25 = 0 then (
          bnd (m_X11_isWord 14 D25) (fun r34 D34 =>
          gd (InR r34) (if r34 = 0 then (
            bnd (m_X11_isWord 15 D34) (fun r43 D43 =>
            gd (InR r43) (if r43 = 0 then (
              bnd (m_X11_isWord 16 D43) (fun r52 D52 =>
              gd (InR r52) (if r52 = 0 then (
                bnd (m_X11_isWord 17 D52) (fun r61 D61 =>
                gd (InR r61) (if r61 = 0 then (
                  bnd (m_X11_isWord 18 D61) (fun r70 D70 =>
                  gd (InR r70) (if r70 = 0 then (
                    some (1, D70)
                  ) else (
                    m_X11_isName_80 D70
                  ))
                  )
                ) else (
                  m_X11_isName_80 D61
                ))
                )
              ) else (
                m_X11_isName_80 D52
              ))
              )
            ) else (
              m_X11_isName_80 D43
            ))
            )
          ) else (
            m_X11_isName_80 D34
          ))
          )
        ) else (
          m_X11_isName_80 D25
        ))
        )
      ) else (
        m_X11_isName_80 D1
      ))
    ) else (
      m_X11_isName_80 D1
    ))
  ) else (
    m_X11_isName_80 D1
  ))
  ))
noncomputable def m_X11_told_22 (v1 : Int) (v2 : Int) (D : DT) (s : (Int × Int)) : Option (Int ⊕ (Int × DT)) := loopF (fun s =>
  gd (InR s.2 ∧ InR 6) (if s.2 < 6 then (
    gd (InR s.1) (if s.1 = 0 then (
      done (
      gd (InR s.1) (if s.1 = 0 then (
        some (.inl (v2 + 1))
      ) else (
        done (
        some (v2, D)
        )
      ))
      )
    ) else (
      gd ((0 : Int) ≤ ((6 * v2) + s.2) ∧ ((6 * v2) + s.2) < (48 : Int)) (
      gd (InR s.2 ∧ InR v1) (if s.2 < v1 then (
        gd ((0 : Int) ≤ ((D.1 73 16) + s.2) ∧ ((D.1 73 16) + s.2) < (400 : Int)) (
        gd (InR (D.2 85 (Int.toNat ((6 * v2) + s.2))) ∧ InR (D.2 74 (Int.toNat ((D.1 73 16) + s.2)))) (if (D.2 85 (Int.toNat ((6 * v2) + s.2))) = (D.2 74 (Int.toNat ((D.1 73 16) + s.2))) then (
          some (.inl (1, (s.2 + 1)))
        ) else (
          some (.inl (0, (s.2 + 1)))
        ))
        )
      ) else (
        gd (InR (D.2 85 (Int.toNat ((6 * v2) + s.2))) ∧ InR 0) (if (D.2 85 (Int.toNat ((6 * v2) + s.2))) = 0 then (
          some (.inl (1, (s.2 + 1)))
        ) else (
          some (.inl (0, (s.2 + 1)))
        ))
      ))
      )
    ))
  ) else (
    done (
    gd (InR s.1) (if s.1 = 0 then (
      some (.inl (v2 + 1))
    ) else (
      done (
      some (v2, D)
      )
    ))
    )
  ))) s
noncomputable def m_X11_told_7 (v1 : Int) (D : DT) (s : Int) : Option (Int × DT) := loopF (fun s =>
  gd ((0 : Int) ≤ 2 ∧ 2 < (4 : Int)) (
  gd (InR s ∧ InR (D.2 77 (Int.toNat 2))) (if s < (D.2 77 (Int.toNat 2)) then (
    m_X11_told_22 v1 s D (1, 0)
  ) else (
    done (
    some ((-1), D)
    )
  ))
  )) s
noncomputable def m_X11_told (D : DT) : Option (Int × DT) :=
  bnd (m_X11_wordMany D) (fun r1 D1 =>
  m_X11_told_7 r1 D1 0
  )
noncomputable def m_X11_number_15 (v1 : Int) (v2 : Int) (s : (Int × DT)) : Option (Int × DT) := loopF (fun s =>
  (m_X11_isAt 48 57 s.2).bind (fun r20 =>
  gd (InR r20) (if r20 = 0 then (
    done (
    gd (InR ((s.2.1 73 16) - (s.2.1 73 17))) (if ((s.2.1 73 16) - (s.2.1 73 17)) = 0 then (
      (m_X11_failsAt (s.2.1 73 17) s.2).bind (fun D106 =>
      some (s.1, D106)
      )
    ) else (
      gd (InR ((s.2.1 73 16) - (s.2.1 73 17)) ∧ InR 5) (if ((s.2.1 73 16) - (s.2.1 73 17)) ≤ 5 then (
        (m_X11_in s.1 v1 v2 s.2).bind (fun r95 =>
        gd (InR r95) (if r95 = 0 then (
          (m_X11_failsAt (s.2.1 73 17) s.2).bind (fun D106 =>
          some (s.1, D106)
          )
        ) else (
          some (s.1, s.2)
        ))
        )
      ) else (
        (m_X11_failsAt (s.2.1 73 17) s.2).bind (fun D106 =>
        some (s.1, D106)
        )
      ))
    ))
    )
  ) else (
    gd (InR ((s.2.1 73 16) - (s.2.1 73 17)) ∧ InR 5) (if ((s.2.1 73 16) - (s.2.1 73 17)) < 5 then (
      gd ((0 : Int) ≤ (s.2.1 73 16) ∧ (s.2.1 73 16) < (400 : Int)) (
      sq (sF s.2 73 16 ((s.2.1 73 16) + 1)) (fun D64 =>
      some (.inl ((((10 * s.1) + (s.2.2 74 (Int.toNat (s.2.1 73 16)))) - 48), D64))
      ))
    ) else (
      sq (sF s.2 73 16 ((s.2.1 73 16) + 1)) (fun D64 =>
      some (.inl (s.1, D64))
      )
    ))
  ))
  )) s
noncomputable def m_X11_number (v1 : Int) (v2 : Int) (D : DT) : Option (Int × DT) :=
  (m_X11_hasFailed D).bind (fun r1 =>
  gd (InR r1) (if r1 = 0 then (
    (m_X11_blanks D).bind (fun D10 =>
    m_X11_number_15 v1 v2 (0, D10)
    )
  ) else (
    some (0, D)
  ))
  )
noncomputable def m_X11_sizeLine (D : DT) : Option DT :=
  (m_X11_asksWord 13 D).bind (fun D3 =>
  bnd (m_X11_number 2 24 D3) (fun r15 D15 =>
  gd ((0 : Int) ≤ 0 ∧ 0 < (4 : Int)) (sq (sA D15 77 (Int.toNat 0) r15) (fun D18 =>
  bnd (m_X11_number 2 16 D18) (fun r28 D28 =>
  gd ((0 : Int) ≤ 1 ∧ 1 < (4 : Int)) (sq (sA D28 77 (Int.toNat 1) r28) (fun D31 =>
  (m_X11_asks 59 D31).bind (fun D35 =>
  some D35
  ))))))))
noncomputable def m_X11_groupsLine (D : DT) : Option DT :=
  gd (InR (D.1 73 21)) (if (D.1 73 21) = 0 then (
    gd ((0 : Int) ≤ 2 ∧ 2 < (4 : Int)) (
    gd (InR (D.2 77 (Int.toNat 2))) (if 0 < (D.2 77 (Int.toNat 2)) then (
      (m_X11_failsAt (D.1 73 17) D).bind (fun D21 =>
      some D21
      )
    ) else (
      sq (sF D 73 21 1) (fun D27 =>
      (m_X11_asksWord 14 D27).bind (fun D33 =>
      bnd (m_X11_number 1 3 D33) (fun r44 D44 =>
      gd ((0 : Int) ≤ 3 ∧ 3 < (4 : Int)) (sq (sA D44 77 (Int.toNat 3) r44) (fun D47 =>
      some D47
      )))))
    ))
    )
  ) else (
    (m_X11_failsAt (D.1 73 17) D).bind (fun D21 =>
    some D21
    )
  ))
noncomputable def m_X11_zoneLine_140 (v1 : Int) (v3 : Int) (D : DT) : Option ((Int × DT) ⊕ DT) :=
  bnd (m_X11_number 0 99999 D) (fun r153 D153 =>
  gd ((0 : Int) ≤ ((3 * v1) + v3) ∧ ((3 * v1) + v3) < (24 : Int)) (sq (sA D153 83 (Int.toNat ((3 * v1) + v3)) r153) (fun D156 =>
  some (.inl ((v3 + 1), D156))
  )))
noncomputable def m_X11_zoneLine_120 (v1 : Int) (s : (Int × DT)) : Option DT := loopF (fun s =>
  gd ((0 : Int) ≤ 3 ∧ 3 < (4 : Int)) (
  gd (InR s.1 ∧ InR (s.2.2 77 (Int.toNat 3))) (if s.1 < (s.2.2 77 (Int.toNat 3)) then (
    gd (InR s.1) (if 0 < s.1 then (
      (m_X11_asks 44 s.2).bind (fun D137 =>
      m_X11_zoneLine_140 v1 s.1 D137
      )
    ) else (
      m_X11_zoneLine_140 v1 s.1 s.2
    ))
  ) else (
    done (
    gd ((0 : Int) ≤ 2 ∧ 2 < (4 : Int)) (
    gd ((0 : Int) ≤ 2 ∧ 2 < (4 : Int)) (sq (sA s.2 77 (Int.toNat 2) ((s.2.2 77 (Int.toNat 2)) + 1)) (fun D172 =>
    some D172
    )))
    )
  ))
  )) s
noncomputable def m_X11_zoneLine_59 (v1 : Int) (v2 : Int) (s : (Int × DT)) : Option DT := loopF (fun s =>
  gd (InR s.1 ∧ InR 6) (if s.1 < 6 then (
    gd (InR s.1 ∧ InR v2) (if s.1 < v2 then (
      gd ((0 : Int) ≤ ((s.2.1 73 16) + s.1) ∧ ((s.2.1 73 16) + s.1) < (400 : Int)) (
      gd (((0 : Int) ≤ ((6 * v1) + s.1) ∧ ((6 * v1) + s.1) < (48 : Int)) ∧ ((-128 : Int) ≤ (s.2.2 74 (Int.toNat ((s.2.1 73 16) + s.1))) ∧ (s.2.2 74 (Int.toNat ((s.2.1 73 16) + s.1))) ≤ (127 : Int))) (sq (sA s.2 85 (Int.toNat ((6 * v1) + s.1)) (s.2.2 74 (Int.toNat ((s.2.1 73 16) + s.1)))) (fun D95 =>
      some (.inl ((s.1 + 1), D95))
      ))
      )
    ) else (
      gd (((0 : Int) ≤ ((6 * v1) + s.1) ∧ ((6 * v1) + s.1) < (48 : Int)) ∧ ((-128 : Int) ≤ 0 ∧ 0 ≤ (127 : Int))) (sq (sA s.2 85 (Int.toNat ((6 * v1) + s.1)) 0) (fun D95 =>
      some (.inl ((s.1 + 1), D95))
      ))
    ))
  ) else (
    done (
    sq (sF s.2 73 16 ((s.2.1 73 16) + v2)) (fun D109 =>
    (m_X11_asksWord 16 D109).bind (fun D115 =>
    m_X11_zoneLine_120 v1 (0, D115)
    ))
    )
  ))) s
noncomputable def m_X11_zoneLine (D : DT) : Option DT :=
  gd ((0 : Int) ≤ 2 ∧ 2 < (4 : Int)) (
  gd (InR (D.2 77 (Int.toNat 2)) ∧ InR 8) (if (D.2 77 (Int.toNat 2)) = 8 then (
    (m_X11_failsAt (D.1 73 17) D).bind (fun D18 =>
    some D18
    )
  ) else (
    (m_X11_asksWord 15 D).bind (fun D25 =>
    bnd (m_X11_isName D25) (fun r29 D29 =>
    gd (InR r29) (if r29 = 0 then (
      (m_X11_failsAt (D29.1 73 17) D29).bind (fun D48 =>
      some D48
      )
    ) else (
      bnd (m_X11_told D29) (fun r36 D36 =>
      gd (InR r36 ∧ InR (-1)) (if r36 = (-1) then (
        bnd (m_X11_wordMany D36) (fun r53 D53 =>
        m_X11_zoneLine_59 (D.2 77 (Int.toNat 2)) r53 (0, D53)
        )
      ) else (
        (m_X11_failsAt (D36.1 73 17) D36).bind (fun D48 =>
        some D48
        )
      ))
      )
    ))
    ))
  ))
  )
noncomputable def m_X11_isOther (v1 : Int) (v2 : Int) (D : DT) : Option Int :=
  gd (InR v2 ∧ InR (-1)) (if v2 = (-1) then (
    some 0
  ) else (
    gd ((0 : Int) ≤ v1 ∧ v1 < (384 : Int)) (
    gd (InR (D.2 79 (Int.toNat v1)) ∧ InR (-1)) (if (D.2 79 (Int.toNat v1)) = (-1) then (
      some 0
    ) else (
      gd ((0 : Int) ≤ v1 ∧ v1 < (384 : Int)) (
      gd (InR (D.2 79 (Int.toNat v1)) ∧ InR v2) (if (D.2 79 (Int.toNat v1)) = v2 then (
        some 0
      ) else (
        some 1
      ))
      )
    ))
    )
  ))
noncomputable def m_X11_runs_142 (v1 : Int) (v2 : Int) (v5 : Int) (s : (Int × DT)) : Option (DT ⊕ DT) := loopF (fun s =>
  gd (InR s.1 ∧ InR v5) (if s.1 ≤ v5 then (
    (m_X11_hasFailed s.2).bind (fun r150 =>
    gd (InR r150) (if r150 = 0 then (
      gd (InR v1 ∧ InR (-1)) (if v1 = (-1) then (
        gd (((0 : Int) ≤ (v2 + s.1) ∧ (v2 + s.1) < (384 : Int)) ∧ ((1 : Int) = 0 ∨ (1 : Int) = 1)) (sq (sA s.2 81 (Int.toNat (v2 + s.1)) 1) (fun D170 =>
        some (.inl ((s.1 + 1), D170))
        ))
      ) else (
        gd ((0 : Int) ≤ (v2 + s.1) ∧ (v2 + s.1) < (384 : Int)) (sq (sA s.2 79 (Int.toNat (v2 + s.1)) v1) (fun D183 =>
        some (.inl ((s.1 + 1), D183))
        ))
      ))
    ) else (
      done (
      bnd (m_X11_takes 44 s.2) (fun r193 D193 =>
      gd (InR r193) (if r193 = 0 then (
        done (
        some D193
        )
      ) else (
        some (.inl D193)
      ))
      )
      )
    ))
    )
  ) else (
    done (
    bnd (m_X11_takes 44 s.2) (fun r193 D193 =>
    gd (InR r193) (if r193 = 0 then (
      done (
      some D193
      )
    ) else (
      some (.inl D193)
    ))
    )
    )
  ))) s
noncomputable def m_X11_runs_101 (v1 : Int) (v2 : Int) (v3 : Int) (v4 : Int) (v5 : Int) (s : (Int × DT)) : Option (DT ⊕ DT) := loopF (fun s =>
  gd (InR s.1 ∧ InR v5) (if s.1 ≤ v5 then (
    (m_X11_hasFailed s.2).bind (fun r109 =>
    gd (InR r109) (if r109 = 0 then (
      (m_X11_isOther (v2 + s.1) v1 s.2).bind (fun r121 =>
      gd (InR r121) (if r121 = 0 then (
        some (.inl ((s.1 + 1), s.2))
      ) else (
        (m_X11_failsAt v3 s.2).bind (fun D129 =>
        some (.inl ((s.1 + 1), D129))
        )
      ))
      )
    ) else (
      done (
      m_X11_runs_142 v1 v2 v5 (v4, s.2)
      )
    ))
    )
  ) else (
    done (
    m_X11_runs_142 v1 v2 v5 (v4, s.2)
    )
  ))) s
noncomputable def m_X11_runs_75 (v1 : Int) (v2 : Int) (v3 : Int) (v4 : Int) (D : DT) : Option (DT ⊕ DT) :=
  (m_X11_asks 45 D).bind (fun D78 =>
  gd ((0 : Int) ≤ 0 ∧ 0 < (4 : Int)) (
  bnd (m_X11_number v4 ((D78.2 77 (Int.toNat 0)) - 1) D78) (fun r92 D92 =>
  m_X11_runs_101 v1 v2 v3 v4 r92 (v4, D92)
  )))
noncomputable def m_X11_runs_27 (v1 : Int) (v2 : Int) (s : DT) : Option DT := loopF (fun s =>
  (m_X11_blanks s).bind (fun D28 =>
  gd ((0 : Int) ≤ 0 ∧ 0 < (4 : Int)) (
  bnd (m_X11_number 0 ((D28.2 77 (Int.toNat 0)) - 1) D28) (fun r46 D46 =>
  (m_X11_hasFailed D46).bind (fun r52 =>
  gd (InR r52) (if r52 = 0 then (
    (m_X11_isOther (v2 + r46) v1 D46).bind (fun r64 =>
    gd (InR r64) (if r64 = 0 then (
      m_X11_runs_75 v1 v2 (D28.1 73 17) r46 D46
    ) else (
      (m_X11_failsAt (D28.1 73 17) D46).bind (fun D72 =>
      m_X11_runs_75 v1 v2 (D28.1 73 17) r46 D72
      )
    ))
    )
  ) else (
    m_X11_runs_75 v1 v2 (D28.1 73 17) r46 D46
  ))
  ))))) s
noncomputable def m_X11_runs (v1 : Int) (D : DT) : Option DT :=
  gd ((0 : Int) ≤ 1 ∧ 1 < (4 : Int)) (
  bnd (m_X11_number 0 ((D.2 77 (Int.toNat 1)) - 1) D) (fun r10 D10 =>
  gd ((0 : Int) ≤ 0 ∧ 0 < (4 : Int)) (
  (m_X11_asks 58 D10).bind (fun D24 =>
  m_X11_runs_27 v1 (r10 * (D10.2 77 (Int.toNat 0))) D24
  ))))
noncomputable def m_X11_rowLine_21 (x0 : Int) (D : DT) : Option DT :=
  gd (InR x0 ∧ InR (-1)) (if x0 = (-1) then (
    (m_X11_failsAt (D.1 73 17) D).bind (fun D32 =>
    some D32
    )
  ) else (
    bnd (m_X11_wordMany D) (fun r42 D42 =>
    sq (sF D42 73 16 ((D.1 73 16) + r42)) (fun D46 =>
    (m_X11_runs x0 D46).bind (fun D51 =>
    some D51
    )))
  ))
noncomputable def m_X11_rowLine (D : DT) : Option DT :=
  (m_X11_asksWord 17 D).bind (fun D3 =>
  bnd (m_X11_isName D3) (fun r7 D7 =>
  gd (InR r7) (if r7 = 0 then (
    m_X11_rowLine_21 (-1) D7
  ) else (
    bnd (m_X11_told D7) (fun r14 D14 =>
    m_X11_rowLine_21 r14 D14
    )
  ))
  ))
noncomputable def m_X11_line_83 (D : DT) : Option DT :=
  (m_X11_asks 59 D).bind (fun D86 =>
  some D86
  )
noncomputable def m_X11_line (D : DT) : Option DT :=
  (m_X11_blanks D).bind (fun D1 =>
  bnd (m_X11_isWord 14 D1) (fun r7 D7 =>
  gd (InR r7) (if r7 = 0 then (
    bnd (m_X11_isWord 15 D7) (fun r23 D23 =>
    gd (InR r23) (if r23 = 0 then (
      bnd (m_X11_isWord 17 D23) (fun r39 D39 =>
      gd (InR r39) (if r39 = 0 then (
        bnd (m_X11_isWord 18 D39) (fun r55 D55 =>
        gd (InR r55) (if r55 = 0 then (
          (m_X11_failsAt (D55.1 73 17) D55).bind (fun D80 =>
          m_X11_line_83 D80
          )
        ) else (
          (m_X11_asksWord 18 D55).bind (fun D64 =>
          (m_X11_runs (-1) D64).bind (fun D69 =>
          m_X11_line_83 D69
          ))
        ))
        )
      ) else (
        (m_X11_rowLine D39).bind (fun D46 =>
        m_X11_line_83 D46
        )
      ))
      )
    ) else (
      (m_X11_zoneLine D23).bind (fun D30 =>
      m_X11_line_83 D30
      )
    ))
    )
  ) else (
    (m_X11_groupsLine D7).bind (fun D14 =>
    m_X11_line_83 D14
    )
  ))
  ))
noncomputable def m_X11_zones (D : DT) : Option Int :=
  gd ((0 : Int) ≤ 2 ∧ 2 < (4 : Int)) (
  some (D.2 76 (Int.toNat 2))
  )
noncomputable def m_X11_cells (D : DT) : Option Int :=
  gd ((0 : Int) ≤ 0 ∧ 0 < (4 : Int)) (
  gd ((0 : Int) ≤ 1 ∧ 1 < (4 : Int)) (
  some ((D.2 76 (Int.toNat 0)) * (D.2 76 (Int.toNat 1)))
  ))
noncomputable def m_X11_isLandOf (v1 : Int) (v2 : Int) (D : DT) : Option Int :=
  gd ((0 : Int) ≤ v1 ∧ v1 < (384 : Int)) (
  gd (InR (D.2 78 (Int.toNat v1)) ∧ InR v2) (if (D.2 78 (Int.toNat v1)) = v2 then (
    gd ((0 : Int) ≤ v1 ∧ v1 < (384 : Int)) (
    gd (InR (D.2 80 (Int.toNat v1))) (if (D.2 80 (Int.toNat v1)) = 0 then (
      some 1
    ) else (
      some 0
    ))
    )
  ) else (
    some 0
  ))
  )
noncomputable def m_X11_far (v1 : Int) (v2 : Int) (D : DT) : Option Int :=
  gd ((0 : Int) ≤ 0 ∧ 0 < (4 : Int)) (
  gd ((0 : Int) ≤ v1 ∧ v1 ≤ (2147483647 : Int) ∧ (0 : Int) < (D.2 76 (Int.toNat 0)) ∧ (D.2 76 (Int.toNat 0)) ≤ (2147483647 : Int)) (
  gd ((0 : Int) ≤ 0 ∧ 0 < (4 : Int)) (
  gd ((0 : Int) ≤ v2 ∧ v2 ≤ (2147483647 : Int) ∧ (0 : Int) < (D.2 76 (Int.toNat 0)) ∧ (D.2 76 (Int.toNat 0)) ≤ (2147483647 : Int)) (
  gd ((0 : Int) ≤ 0 ∧ 0 < (4 : Int)) (
  gd ((0 : Int) ≤ v1 ∧ v1 ≤ (2147483647 : Int) ∧ (0 : Int) < (D.2 76 (Int.toNat 0)) ∧ (D.2 76 (Int.toNat 0)) ≤ (2147483647 : Int)) (
  gd ((0 : Int) ≤ 0 ∧ 0 < (4 : Int)) (
  gd ((0 : Int) ≤ v2 ∧ v2 ≤ (2147483647 : Int) ∧ (0 : Int) < (D.2 76 (Int.toNat 0)) ∧ (D.2 76 (Int.toNat 0)) ≤ (2147483647 : Int)) (
  some ((((v1 % (D.2 76 (Int.toNat 0))) - (v2 % (D.2 76 (Int.toNat 0)))) * ((v1 % (D.2 76 (Int.toNat 0))) - (v2 % (D.2 76 (Int.toNat 0))))) + (((v1 / (D.2 76 (Int.toNat 0))) - (v2 / (D.2 76 (Int.toNat 0)))) * ((v1 / (D.2 76 (Int.toNat 0))) - (v2 / (D.2 76 (Int.toNat 0))))))
  ))))))))
noncomputable def m_X11_middleOf_35 (v1 : Int) (v2 : Int) (v3 : Int) (v4 : Int) (D : DT) (s : (Int × Int)) : Option ((Int × Int × Int) ⊕ Int) := loopF (fun s =>
  (m_X11_cells D).bind (fun r38 =>
  gd (InR s.2 ∧ InR r38) (if s.2 < r38 then (
    (m_X11_isLandOf s.2 v1 D).bind (fun r50 =>
    gd (InR r50) (if r50 = 0 then (
      some (.inl ((s.1 + 0), (s.2 + 1)))
    ) else (
      (m_X11_far v4 s.2 D).bind (fun r61 =>
      some (.inl ((s.1 + r61), (s.2 + 1)))
      )
    ))
    )
  ) else (
    done (
    gd (InR v2 ∧ InR (-1)) (if v2 = (-1) then (
      some (.inl (v4, s.1, (v4 + 1)))
    ) else (
      gd (InR s.1 ∧ InR v3) (if v3 ≤ s.1 then (
        some (.inl (v2, v3, (v4 + 1)))
      ) else (
        some (.inl (v4, s.1, (v4 + 1)))
      ))
    ))
    )
  ))
  )) s
noncomputable def m_X11_middleOf_7 (v1 : Int) (D : DT) (s : (Int × Int × Int)) : Option Int := loopF (fun s =>
  (m_X11_cells D).bind (fun r10 =>
  gd (InR s.2.2 ∧ InR r10) (if s.2.2 < r10 then (
    (m_X11_isLandOf s.2.2 v1 D).bind (fun r20 =>
    gd (InR r20) (if r20 = 0 then (
      some (.inl (s.1, s.2.1, (s.2.2 + 1)))
    ) else (
      m_X11_middleOf_35 v1 s.1 s.2.1 s.2.2 D (0, 0)
    ))
    )
  ) else (
    done (
    some s.1
    )
  ))
  )) s
noncomputable def m_X11_middleOf (v1 : Int) (D : DT) : Option Int :=
  m_X11_middleOf_7 v1 D ((-1), 0, 0)
noncomputable def m_X11_laysOrders_172 (v1 : Int) (v2 : Int) (v3 : Int) (v4 : Int) (v5 : Int) (D : DT) : Option ((Int × Int × DT) ⊕ ((Int × Int × DT) ⊕ ((Int × DT) ⊕ DT))) :=
  gd (InR v4 ∧ InR (-1)) (if v4 = (-1) then (
    some (.inl (v5, (v5 + 1), D))
  ) else (
    gd ((0 : Int) ≤ v5 ∧ v5 < (384 : Int)) (
    gd ((0 : Int) ≤ v4 ∧ v4 < (384 : Int)) (
    gd (InR (D.2 89 (Int.toNat v5)) ∧ InR (D.2 89 (Int.toNat v4))) (if (D.2 89 (Int.toNat v4)) < (D.2 89 (Int.toNat v5)) then (
      some (.inl (v5, (v5 + 1), D))
    ) else (
      some (.inl (v4, (v5 + 1), D))
    ))
    ))
  ))
noncomputable def m_X11_laysOrders_109 (v1 : Int) (v2 : Int) (v3 : Int) (s : (Int × Int × DT)) : Option ((Int × Int × DT) ⊕ ((Int × DT) ⊕ DT)) := loopF (fun s =>
  (m_X11_cells s.2.2).bind (fun r112 =>
  gd (InR s.2.1 ∧ InR r112) (if s.2.1 < r112 then (
    (m_X11_isLandOf s.2.1 v1 s.2.2).bind (fun r122 =>
    gd (InR r122) (if r122 = 0 then (
      some (.inl (s.1, (s.2.1 + 1), s.2.2))
    ) else (
      gd ((0 : Int) ≤ s.2.1 ∧ s.2.1 < (384 : Int)) (
      gd (InR (s.2.2.2 88 (Int.toNat s.2.1)) ∧ InR (-1)) (if (s.2.2.2 88 (Int.toNat s.2.1)) = (-1) then (
        (m_X11_far s.2.1 v3 s.2.2).bind (fun r146 =>
        gd ((0 : Int) ≤ s.2.1 ∧ s.2.1 < (384 : Int)) (
        gd (InR r146 ∧ InR (s.2.2.2 89 (Int.toNat s.2.1))) (if r146 < (s.2.2.2 89 (Int.toNat s.2.1)) then (
          gd ((0 : Int) ≤ s.2.1 ∧ s.2.1 < (384 : Int)) (sq (sA s.2.2 89 (Int.toNat s.2.1) r146) (fun D171 =>
          m_X11_laysOrders_172 v1 v2 v3 s.1 s.2.1 D171
          ))
        ) else (
          m_X11_laysOrders_172 v1 v2 v3 s.1 s.2.1 s.2.2
        ))
        ))
      ) else (
        some (.inl (s.1, (s.2.1 + 1), s.2.2))
      ))
      )
    ))
    )
  ) else (
    done (
    some (.inl (v2, s.1, s.2.2))
    )
  ))
  )) s
noncomputable def m_X11_laysOrders_74 (v1 : Int) (s : (Int × Int × DT)) : Option ((Int × DT) ⊕ DT) := loopF (fun s =>
  gd (InR s.2.1 ∧ InR (-1)) (if s.2.1 = (-1) then (
    done (
    gd ((0 : Int) ≤ v1 ∧ v1 < (9 : Int)) (
    gd ((0 : Int) ≤ (v1 + 1) ∧ (v1 + 1) < (9 : Int)) (sq (sA s.2.2 87 (Int.toNat (v1 + 1)) ((s.2.2.2 87 (Int.toNat v1)) + s.1)) (fun D226 =>
    some (.inl ((v1 + 1), D226))
    )))
    )
  ) else (
    gd ((0 : Int) ≤ v1 ∧ v1 < (9 : Int)) (
    gd ((0 : Int) ≤ ((s.2.2.2 87 (Int.toNat v1)) + s.1) ∧ ((s.2.2.2 87 (Int.toNat v1)) + s.1) < (384 : Int)) (sq (sA s.2.2 86 (Int.toNat ((s.2.2.2 87 (Int.toNat v1)) + s.1)) s.2.1) (fun D92 =>
    gd ((0 : Int) ≤ s.2.1 ∧ s.2.1 < (384 : Int)) (sq (sA D92 88 (Int.toNat s.2.1) s.1) (fun D99 =>
    m_X11_laysOrders_109 v1 (s.1 + 1) s.2.1 ((-1), 0, D99)
    )))))
  ))) s
noncomputable def m_X11_laysOrders_50 (v1 : Int) (v2 : Int) (v3 : Int) (s : (Int × DT)) : Option ((Int × DT) ⊕ DT) := loopF (fun s =>
  (m_X11_cells s.2).bind (fun r53 =>
  gd (InR s.1 ∧ InR r53) (if s.1 < r53 then (
    gd ((0 : Int) ≤ s.1 ∧ s.1 < (384 : Int)) (sq (sA s.2 89 (Int.toNat s.1) 268435456) (fun D67 =>
    some (.inl ((s.1 + 1), D67))
    ))
  ) else (
    done (
    m_X11_laysOrders_74 v1 (v2, v3, s.2)
    )
  ))
  )) s
noncomputable def m_X11_laysOrders_31 (s : (Int × DT)) : Option DT := loopF (fun s =>
  (m_X11_zones s.2).bind (fun r33 =>
  gd (InR s.1 ∧ InR r33) (if s.1 < r33 then (
    (m_X11_middleOf s.1 s.2).bind (fun r43 =>
    m_X11_laysOrders_50 s.1 0 r43 (0, s.2)
    )
  ) else (
    done (
    some s.2
    )
  ))
  )) s
noncomputable def m_X11_laysOrders_2 (s : (Int × DT)) : Option DT := loopF (fun s =>
  gd (InR s.1 ∧ InR 384) (if s.1 < 384 then (
    gd ((0 : Int) ≤ s.1 ∧ s.1 < (384 : Int)) (sq (sA s.2 88 (Int.toNat s.1) (-1)) (fun D15 =>
    some (.inl ((s.1 + 1), D15))
    ))
  ) else (
    done (
    gd ((0 : Int) ≤ 0 ∧ 0 < (9 : Int)) (sq (sA s.2 87 (Int.toNat 0) 0) (fun D28 =>
    m_X11_laysOrders_31 (0, D28)
    ))
    )
  ))) s
noncomputable def m_X11_laysOrders (D : DT) : Option DT :=
  m_X11_laysOrders_2 (0, D)
noncomputable def m_X11_read_248 (s : (Int × DT)) : Option (Int × DT) := loopF (fun s =>
  gd (InR s.1 ∧ InR 48) (if s.1 < 48 then (
    gd ((0 : Int) ≤ s.1 ∧ s.1 < (48 : Int)) (
    gd (((0 : Int) ≤ s.1 ∧ s.1 < (48 : Int)) ∧ ((-128 : Int) ≤ (s.2.2 85 (Int.toNat s.1)) ∧ (s.2.2 85 (Int.toNat s.1)) ≤ (127 : Int))) (sq (sA s.2 84 (Int.toNat s.1) (s.2.2 85 (Int.toNat s.1))) (fun D265 =>
    some (.inl ((s.1 + 1), D265))
    )))
  ) else (
    done (
    (m_X11_laysOrders s.2).bind (fun D273 =>
    gd ((0 : Int) ≤ 2 ∧ 2 < (4 : Int)) (
    some ((D273.2 76 (Int.toNat 2)), D273)
    ))
    )
  ))) s
noncomputable def m_X11_read_222 (s : (Int × DT)) : Option (Int × DT) := loopF (fun s =>
  gd (InR s.1 ∧ InR 24) (if s.1 < 24 then (
    gd ((0 : Int) ≤ s.1 ∧ s.1 < (24 : Int)) (
    gd ((0 : Int) ≤ s.1 ∧ s.1 < (24 : Int)) (sq (sA s.2 82 (Int.toNat s.1) (s.2.2 83 (Int.toNat s.1))) (fun D239 =>
    some (.inl ((s.1 + 1), D239))
    )))
  ) else (
    done (
    m_X11_read_248 (0, s.2)
    )
  ))) s
noncomputable def m_X11_read_183 (s : (Int × DT)) : Option (Int × DT) := loopF (fun s =>
  gd (InR s.1 ∧ InR 384) (if s.1 < 384 then (
    gd ((0 : Int) ≤ s.1 ∧ s.1 < (384 : Int)) (
    gd ((0 : Int) ≤ s.1 ∧ s.1 < (384 : Int)) (sq (sA s.2 78 (Int.toNat s.1) (s.2.2 79 (Int.toNat s.1))) (fun D201 =>
    gd ((0 : Int) ≤ s.1 ∧ s.1 < (384 : Int)) (
    gd (((0 : Int) ≤ s.1 ∧ s.1 < (384 : Int)) ∧ (((D201.2 81 (Int.toNat s.1)) : Int) = 0 ∨ ((D201.2 81 (Int.toNat s.1)) : Int) = 1)) (sq (sA D201 80 (Int.toNat s.1) (D201.2 81 (Int.toNat s.1))) (fun D213 =>
    some (.inl ((s.1 + 1), D213))
    ))))))
  ) else (
    done (
    m_X11_read_222 (0, s.2)
    )
  ))) s
noncomputable def m_X11_read_158 (s : (Int × DT)) : Option (Int × DT) := loopF (fun s =>
  gd (InR s.1 ∧ InR 4) (if s.1 < 4 then (
    gd ((0 : Int) ≤ s.1 ∧ s.1 < (4 : Int)) (
    gd ((0 : Int) ≤ s.1 ∧ s.1 < (4 : Int)) (sq (sA s.2 76 (Int.toNat s.1) (s.2.2 77 (Int.toNat s.1))) (fun D174 =>
    some (.inl ((s.1 + 1), D174))
    )))
  ) else (
    done (
    m_X11_read_183 (0, s.2)
    )
  ))) s
noncomputable def m_X11_read_134 (D : DT) : Option (Int × DT) :=
  sq (sF D 73 20 (D.1 73 19)) (fun D139 =>
  (m_X11_hasFailed D139).bind (fun r144 =>
  bnd (m_X11_throwsIf r144 1 D139) (fun r148 D148 =>
  gd (InR r148) (if r148 = 0 then (
    m_X11_read_158 (0, D148)
  ) else (
    some (0, D148)
  ))
  )))
noncomputable def m_X11_read_105 (s : DT) : Option (Int × DT) := loopF (fun s =>
  (m_X11_hasFailed s).bind (fun r106 =>
  gd (InR r106) (if r106 = 0 then (
    gd (InR (s.1 73 16) ∧ InR (s.1 73 18)) (if (s.1 73 16) < (s.1 73 18) then (
      (m_X11_line s).bind (fun D124 =>
      (m_X11_blanks D124).bind (fun D128 =>
      some (.inl D128)
      ))
    ) else (
      done (
      m_X11_read_134 s
      )
    ))
  ) else (
    done (
    m_X11_read_134 s
    )
  ))
  )) s
noncomputable def m_X11_read_78 (s : (Int × DT)) : Option (Int × DT) := loopF (fun s =>
  gd (InR s.1 ∧ InR 24) (if s.1 < 24 then (
    gd ((0 : Int) ≤ s.1 ∧ s.1 < (24 : Int)) (sq (sA s.2 83 (Int.toNat s.1) 0) (fun D90 =>
    some (.inl ((s.1 + 1), D90))
    ))
  ) else (
    done (
    (m_X11_sizeLine s.2).bind (fun D98 =>
    (m_X11_blanks D98).bind (fun D102 =>
    m_X11_read_105 D102
    ))
    )
  ))) s
noncomputable def m_X11_read_49 (s : (Int × DT)) : Option (Int × DT) := loopF (fun s =>
  gd (InR s.1 ∧ InR 384) (if s.1 < 384 then (
    gd ((0 : Int) ≤ s.1 ∧ s.1 < (384 : Int)) (sq (sA s.2 79 (Int.toNat s.1) (-1)) (fun D62 =>
    gd (((0 : Int) ≤ s.1 ∧ s.1 < (384 : Int)) ∧ ((0 : Int) = 0 ∨ (0 : Int) = 1)) (sq (sA D62 81 (Int.toNat s.1) 0) (fun D69 =>
    some (.inl ((s.1 + 1), D69))
    ))))
  ) else (
    done (
    m_X11_read_78 (0, s.2)
    )
  ))) s
noncomputable def m_X11_read (D : DT) : Option (Int × DT) :=
  sq (sF D 73 0 0) (fun D2 =>
  sq (sF D2 73 18 (D2.1 73 2)) (fun D10 =>
  sq (sF D10 73 2 0) (fun D15 =>
  sq (sF D15 73 16 0) (fun D20 =>
  sq (sF D20 73 19 (-1)) (fun D25 =>
  sq (sF D25 73 21 0) (fun D30 =>
  gd ((0 : Int) ≤ 2 ∧ 2 < (4 : Int)) (sq (sA D30 77 (Int.toNat 2) 0) (fun D39 =>
  gd ((0 : Int) ≤ 3 ∧ 3 < (4 : Int)) (sq (sA D39 77 (Int.toNat 3) 1) (fun D46 =>
  m_X11_read_49 (0, D46)
  ))))))))))
noncomputable def m_X11_fault (D : DT) : Option (Int × DT) :=
  sq (sF D 73 0 0) (fun D2 =>
  some ((D2.1 73 20), D2)
  )
noncomputable def m_X11_isLand (v1 : Int) (D : DT) : Option Int :=
  gd ((0 : Int) ≤ v1 ∧ v1 < (384 : Int)) (
  gd (InR (D.2 78 (Int.toNat v1)) ∧ InR (-1)) (if (D.2 78 (Int.toNat v1)) = (-1) then (
    some 0
  ) else (
    gd ((0 : Int) ≤ v1 ∧ v1 < (384 : Int)) (
    gd (InR (D.2 80 (Int.toNat v1))) (if (D.2 80 (Int.toNat v1)) = 0 then (
      some 1
    ) else (
      some 0
    ))
    )
  ))
  )
noncomputable def m_X11_land (v1 : Int) (D : DT) : Option Int :=
  gd ((0 : Int) ≤ (v1 + 1) ∧ (v1 + 1) < (9 : Int)) (
  gd ((0 : Int) ≤ v1 ∧ v1 < (9 : Int)) (
  some ((D.2 87 (Int.toNat (v1 + 1))) - (D.2 87 (Int.toNat v1)))
  ))
noncomputable def m_X11_dotsAt (v0 : Int) (v1 : Int) (v2 : Int) (D : DT) : Option Int :=
  some ((3 * ((8 * v0) + v1)) + v2)
noncomputable def m_X11_laysDots_127 (v1 : Int) (v2 : Int) (v3 : Int) (v5 : Int) (v7 : Int) (v8 : Int) (x0 : Int) (x1 : Int) (D : DT) : Option ((Int × Int × DT) ⊕ ((Int × DT) ⊕ ((Int × DT) ⊕ DT))) :=
  gd ((0 : Int) ≤ x1 ∧ x1 < (120 : Int)) (sq (sA D 90 (Int.toNat x1) x0) (fun D127 =>
  (m_X11_land v5 D127).bind (fun r131 =>
  gd (InR r131) (if r131 = 0 then (
    some (.inl (v7, (v5 + 1), D127))
  ) else (
    gd ((0 : Int) ≤ v7 ∧ v7 ≤ (2147483647 : Int) ∧ (0 : Int) < v8 ∧ v8 ≤ (2147483647 : Int)) (
    some (.inl ((v7 % v8), (v5 + 1), D127))
    )
  ))
  )))
noncomputable def m_X11_laysDots_101 (v1 : Int) (v2 : Int) (v3 : Int) (v5 : Int) (v6 : Int) (v7 : Int) (x0 : Int) (D : DT) : Option ((Int × Int × DT) ⊕ ((Int × DT) ⊕ ((Int × DT) ⊕ DT))) :=
  (m_X11_land v5 D).bind (fun r112 =>
  gd (InR r112) (if r112 = 0 then (
    m_X11_laysDots_127 v1 v2 v3 v5 v7 x0 0 v6 D
  ) else (
    gd ((0 : Int) ≤ v7 ∧ v7 ≤ (2147483647 : Int) ∧ (0 : Int) < x0 ∧ x0 ≤ (2147483647 : Int)) (
    m_X11_laysDots_127 v1 v2 v3 v5 v7 x0 (v7 / x0) v6 D
    )
  ))
  )
noncomputable def m_X11_laysDots_25 (v1 : Int) (v2 : Int) (v3 : Int) (s : (Int × Int × DT)) : Option ((Int × DT) ⊕ ((Int × DT) ⊕ DT)) := loopF (fun s =>
  (m_X11_zones s.2.2).bind (fun r28 =>
  gd (InR s.2.1 ∧ InR r28) (if s.2.1 < r28 then (
    (m_X11_dotsAt v2 s.2.1 v3 s.2.2).bind (fun r38 =>
    gd ((0 : Int) ≤ r38 ∧ r38 < (120 : Int)) (sq (sA s.2.2 91 (Int.toNat r38) s.1) (fun D51 =>
    gd (InR v2) (if v2 = 0 then (
      gd ((0 : Int) ≤ ((3 * s.2.1) + v3) ∧ ((3 * s.2.1) + v3) < (24 : Int)) (
      gd (InR v2) (if v2 = 0 then (
        m_X11_laysDots_101 v1 v2 v3 s.2.1 r38 (s.1 + (D51.2 82 (Int.toNat ((3 * s.2.1) + v3)))) v1 D51
      ) else (
        m_X11_laysDots_101 v1 v2 v3 s.2.1 r38 (s.1 + (D51.2 82 (Int.toNat ((3 * s.2.1) + v3)))) (D51.1 73 15) D51
      ))
      )
    ) else (
      (m_X11_dotsAt (v2 - 1) s.2.1 v3 D51).bind (fun r82 =>
      gd ((0 : Int) ≤ r82 ∧ r82 < (120 : Int)) (
      gd (InR v2) (if v2 = 0 then (
        m_X11_laysDots_101 v1 v2 v3 s.2.1 r38 (s.1 + (D51.2 90 (Int.toNat r82))) v1 D51
      ) else (
        m_X11_laysDots_101 v1 v2 v3 s.2.1 r38 (s.1 + (D51.2 90 (Int.toNat r82))) (D51.1 73 15) D51
      ))
      ))
    ))
    )))
  ) else (
    done (
    gd ((0 : Int) ≤ ((3 * v2) + v3) ∧ ((3 * v2) + v3) < (15 : Int)) (sq (sA s.2.2 92 (Int.toNat ((3 * v2) + v3)) s.1) (fun D166 =>
    some (.inl ((v3 + 1), D166))
    ))
    )
  ))
  )) s
noncomputable def m_X11_laysDots_9 (v1 : Int) (v2 : Int) (s : (Int × DT)) : Option ((Int × DT) ⊕ DT) := loopF (fun s =>
  gd ((0 : Int) ≤ 3 ∧ 3 < (4 : Int)) (
  gd (InR s.1 ∧ InR (s.2.2 76 (Int.toNat 3))) (if s.1 < (s.2.2 76 (Int.toNat 3)) then (
    m_X11_laysDots_25 v1 v2 s.1 (0, 0, s.2)
  ) else (
    done (
    some (.inl ((v2 + 1), s.2))
    )
  ))
  )) s
noncomputable def m_X11_laysDots_2 (v1 : Int) (s : (Int × DT)) : Option DT := loopF (fun s =>
  gd (InR s.1 ∧ InR 5) (if s.1 < 5 then (
    m_X11_laysDots_9 v1 s.1 (0, s.2)
  ) else (
    done (
    some s.2
    )
  ))) s
noncomputable def m_X11_laysDots (v1 : Int) (D : DT) : Option DT :=
  m_X11_laysDots_2 v1 (0, D)
noncomputable def m_X11_allDots_17 (v1 : Int) (v2 : Int) (v4 : Int) (D : DT) (s : (Int × Int)) : Option ((Int × Int) ⊕ Int) := loopF (fun s =>
  gd ((0 : Int) ≤ 3 ∧ 3 < (4 : Int)) (
  gd (InR s.2 ∧ InR (D.2 76 (Int.toNat 3))) (if s.2 < (D.2 76 (Int.toNat 3)) then (
    gd (InR v1 ∧ InR (-1)) (if v1 = (-1) then (
      (m_X11_dotsAt v2 v4 s.2 D).bind (fun r49 =>
      gd ((0 : Int) ≤ r49 ∧ r49 < (120 : Int)) (
      some (.inl ((s.1 + (D.2 90 (Int.toNat r49))), (s.2 + 1)))
      ))
    ) else (
      gd (InR s.2 ∧ InR v1) (if s.2 = v1 then (
        (m_X11_dotsAt v2 v4 s.2 D).bind (fun r49 =>
        gd ((0 : Int) ≤ r49 ∧ r49 < (120 : Int)) (
        some (.inl ((s.1 + (D.2 90 (Int.toNat r49))), (s.2 + 1)))
        ))
      ) else (
        some (.inl ((s.1 + 0), (s.2 + 1)))
      ))
    ))
  ) else (
    done (
    some (.inl (s.1, (v4 + 1)))
    )
  ))
  )) s
noncomputable def m_X11_allDots_5 (v1 : Int) (v2 : Int) (D : DT) (s : (Int × Int)) : Option Int := loopF (fun s =>
  (m_X11_zones D).bind (fun r8 =>
  gd (InR s.2 ∧ InR r8) (if s.2 < r8 then (
    m_X11_allDots_17 v1 v2 s.2 D (s.1, 0)
  ) else (
    done (
    some s.1
    )
  ))
  )) s
noncomputable def m_X11_allDots (v1 : Int) (v2 : Int) (D : DT) : Option Int :=
  m_X11_allDots_5 v1 v2 D (0, 0)
noncomputable def m_X11_cellOf (v1 : Int) (v2 : Int) (v3 : Int) (D : DT) : Option Int :=
  gd ((0 : Int) ≤ v1 ∧ v1 < (9 : Int)) (
  gd (InR v3) (
  gd ((0 : Int) ≤ 3 ∧ 3 < (4 : Int)) (
  gd (InR (D.2 76 (Int.toNat 3))) (
  gd (InR v2) (
  (m_X11_land v1 D).bind (fun r25 =>
  gd (InR r25) (
  gd ((0 : Int) ≤ ((v3 * (D.2 76 (Int.toNat 3))) + v2) ∧ ((v3 * (D.2 76 (Int.toNat 3))) + v2) ≤ (9223372036854775807 : Int) ∧ (0 : Int) < r25 ∧ r25 ≤ (9223372036854775807 : Int)) (
  gd ((0 : Int) ≤ ((D.2 87 (Int.toNat v1)) + (((v3 * (D.2 76 (Int.toNat 3))) + v2) % r25)) ∧ ((D.2 87 (Int.toNat v1)) + (((v3 * (D.2 76 (Int.toNat 3))) + v2) % r25)) < (384 : Int)) (
  some (D.2 86 (Int.toNat ((D.2 87 (Int.toNat v1)) + (((v3 * (D.2 76 (Int.toNat 3))) + v2) % r25))))
  )))))))))
noncomputable def m_X11_laysCrowds_55 (v1 : Int) (v2 : Int) (v3 : Int) (s : (Int × DT)) : Option ((Int × DT) ⊕ ((Int × DT) ⊕ DT)) := loopF (fun s =>
  (m_X11_dotsAt v1 v2 v3 s.2).bind (fun r64 =>
  gd ((0 : Int) ≤ r64 ∧ r64 < (120 : Int)) (
  gd (InR s.1 ∧ InR (s.2.2 90 (Int.toNat r64))) (if s.1 < (s.2.2 90 (Int.toNat r64)) then (
    (m_X11_cellOf v2 v3 s.1 s.2).bind (fun r81 =>
    gd ((0 : Int) ≤ ((3 * r81) + v3) ∧ ((3 * r81) + v3) < (1152 : Int)) (
    gd ((0 : Int) ≤ ((3 * r81) + v3) ∧ ((3 * r81) + v3) < (1152 : Int)) (sq (sA s.2 93 (Int.toNat ((3 * r81) + v3)) ((s.2.2 93 (Int.toNat ((3 * r81) + v3))) + 1)) (fun D91 =>
    some (.inl ((s.1 + 1), D91))
    ))))
  ) else (
    done (
    some (.inl ((v3 + 1), s.2))
    )
  ))
  ))) s
noncomputable def m_X11_laysCrowds_42 (v1 : Int) (v2 : Int) (s : (Int × DT)) : Option ((Int × DT) ⊕ DT) := loopF (fun s =>
  gd ((0 : Int) ≤ 3 ∧ 3 < (4 : Int)) (
  gd (InR s.1 ∧ InR (s.2.2 76 (Int.toNat 3))) (if s.1 < (s.2.2 76 (Int.toNat 3)) then (
    m_X11_laysCrowds_55 v1 v2 s.1 (0, s.2)
  ) else (
    done (
    some (.inl ((v2 + 1), s.2))
    )
  ))
  )) s
noncomputable def m_X11_laysCrowds_32 (v1 : Int) (s : (Int × DT)) : Option DT := loopF (fun s =>
  (m_X11_zones s.2).bind (fun r34 =>
  gd (InR s.1 ∧ InR r34) (if s.1 < r34 then (
    m_X11_laysCrowds_42 v1 s.1 (0, s.2)
  ) else (
    done (
    some s.2
    )
  ))
  )) s
noncomputable def m_X11_laysCrowds_10 (v1 : Int) (s : (Int × DT)) : Option DT := loopF (fun s =>
  gd (InR s.1 ∧ InR 1152) (if s.1 < 1152 then (
    gd ((0 : Int) ≤ s.1 ∧ s.1 < (1152 : Int)) (sq (sA s.2 93 (Int.toNat s.1) 0) (fun D23 =>
    some (.inl ((s.1 + 1), D23))
    ))
  ) else (
    done (
    m_X11_laysCrowds_32 v1 (0, s.2)
    )
  ))) s
noncomputable def m_X11_laysCrowds (v1 : Int) (D : DT) : Option DT :=
  (m_X11_laysDots (D.1 73 14) D).bind (fun D5 =>
  m_X11_laysCrowds_10 v1 (0, D5)
  )
noncomputable def m_X11_crowdOf_5 (v1 : Int) (v2 : Int) (D : DT) (s : (Int × Int)) : Option Int := loopF (fun s =>
  gd (InR s.2 ∧ InR 3) (if s.2 < 3 then (
    gd (InR v2 ∧ InR (-1)) (if v2 = (-1) then (
      gd ((0 : Int) ≤ ((3 * v1) + s.2) ∧ ((3 * v1) + s.2) < (1152 : Int)) (
      some (.inl ((s.1 + (D.2 93 (Int.toNat ((3 * v1) + s.2)))), (s.2 + 1)))
      )
    ) else (
      gd (InR s.2 ∧ InR v2) (if s.2 = v2 then (
        gd ((0 : Int) ≤ ((3 * v1) + s.2) ∧ ((3 * v1) + s.2) < (1152 : Int)) (
        some (.inl ((s.1 + (D.2 93 (Int.toNat ((3 * v1) + s.2)))), (s.2 + 1)))
        )
      ) else (
        some (.inl ((s.1 + 0), (s.2 + 1)))
      ))
    ))
  ) else (
    done (
    some s.1
    )
  ))) s
noncomputable def m_X11_crowdOf (v1 : Int) (v2 : Int) (D : DT) : Option Int :=
  m_X11_crowdOf_5 v1 v2 D (0, 0)
noncomputable def m_X11_hasDots (v1 : Int) (D : DT) : Option Int :=
  (m_X11_crowdOf v1 (-1) D).bind (fun r3 =>
  gd (InR r3) (if 0 < r3 then (
    some 1
  ) else (
    some 0
  ))
  )
noncomputable def m_X11_noCell (v1 : Int) (D : DT) : Option (Int × DT) :=
  (m_X11_cells D).bind (fun r4 =>
  (m_X11_in v1 0 (r4 - 1) D).bind (fun r9 =>
  gd (InR r9) (if r9 = 0 then (
    bnd (m_X11_throwsIf 1 1 D) (fun r21 D21 =>
    gd (r21 = 0 ∨ r21 = 1) (some (r21, D21))
    )
  ) else (
    bnd (m_X11_throwsIf 0 1 D) (fun r21 D21 =>
    gd (r21 = 0 ∨ r21 = 1) (some (r21, D21))
    )
  ))
  ))
noncomputable def m_X11_noZone (v1 : Int) (D : DT) : Option (Int × DT) :=
  (m_X11_zones D).bind (fun r4 =>
  (m_X11_in v1 0 (r4 - 1) D).bind (fun r9 =>
  gd (InR r9) (if r9 = 0 then (
    bnd (m_X11_throwsIf 1 1 D) (fun r21 D21 =>
    gd (r21 = 0 ∨ r21 = 1) (some (r21, D21))
    )
  ) else (
    bnd (m_X11_throwsIf 0 1 D) (fun r21 D21 =>
    gd (r21 = 0 ∨ r21 = 1) (some (r21, D21))
    )
  ))
  ))
noncomputable def m_X11_noGroup (v1 : Int) (D : DT) : Option (Int × DT) :=
  gd ((0 : Int) ≤ 3 ∧ 3 < (4 : Int)) (
  (m_X11_in v1 0 ((D.2 76 (Int.toNat 3)) - 1) D).bind (fun r11 =>
  gd (InR r11) (if r11 = 0 then (
    bnd (m_X11_throwsIf 1 1 D) (fun r23 D23 =>
    gd (r23 = 0 ∨ r23 = 1) (some (r23, D23))
    )
  ) else (
    bnd (m_X11_throwsIf 0 1 D) (fun r23 D23 =>
    gd (r23 = 0 ∨ r23 = 1) (some (r23, D23))
    )
  ))
  ))
noncomputable def m_X11_noLevel (v1 : Int) (D : DT) : Option (Int × DT) :=
  (m_X11_in v1 0 4 D).bind (fun r4 =>
  gd (InR r4) (if r4 = 0 then (
    bnd (m_X11_throwsIf 1 1 D) (fun r16 D16 =>
    gd (r16 = 0 ∨ r16 = 1) (some (r16, D16))
    )
  ) else (
    bnd (m_X11_throwsIf 0 1 D) (fun r16 D16 =>
    gd (r16 = 0 ∨ r16 = 1) (some (r16, D16))
    )
  ))
  )
noncomputable def m_X11_noRow (v1 : Int) (D : DT) : Option (Int × DT) :=
  gd ((0 : Int) ≤ 1 ∧ 1 < (4 : Int)) (
  (m_X11_in v1 0 ((D.2 76 (Int.toNat 1)) - 1) D).bind (fun r11 =>
  gd (InR r11) (if r11 = 0 then (
    bnd (m_X11_throwsIf 1 1 D) (fun r23 D23 =>
    gd (r23 = 0 ∨ r23 = 1) (some (r23, D23))
    )
  ) else (
    bnd (m_X11_throwsIf 0 1 D) (fun r23 D23 =>
    gd (r23 = 0 ∨ r23 = 1) (some (r23, D23))
    )
  ))
  ))
noncomputable def m_X11_cell_28 (v1 : Int) (v2 : Int) (x0 : Int) (D : DT) : Option (Int × DT) :=
  bnd (m_X11_throwsIf x0 2 D) (fun r29 D29 =>
  gd (InR r29) (if r29 = 0 then (
    gd (InR v2) (if v2 = 0 then (
      gd ((0 : Int) ≤ v1 ∧ v1 < (384 : Int)) (
      some ((D29.2 78 (Int.toNat v1)), D29)
      )
    ) else (
      gd ((0 : Int) ≤ v1 ∧ v1 < (384 : Int)) (
      gd (InR (D29.2 80 (Int.toNat v1))) (if (D29.2 80 (Int.toNat v1)) = 0 then (
        some (0, D29)
      ) else (
        some (1, D29)
      ))
      )
    ))
  ) else (
    some (0, D29)
  ))
  )
noncomputable def m_X11_cell (v1 : Int) (v2 : Int) (D : DT) : Option (Int × DT) :=
  sq (sF D 73 0 0) (fun D2 =>
  bnd (m_X11_noCell v1 D2) (fun r7 D7 =>
  gd (InR r7) (if r7 = 0 then (
    (m_X11_in v2 0 1 D7).bind (fun r17 =>
    gd (InR r17) (if r17 = 0 then (
      m_X11_cell_28 v1 v2 1 D7
    ) else (
      m_X11_cell_28 v1 v2 0 D7
    ))
    )
  ) else (
    some (0, D7)
  ))
  ))
noncomputable def m_X11_beside (v1 : Int) (v2 : Int) (D : DT) : Option Int :=
  gd ((0 : Int) ≤ 0 ∧ 0 < (4 : Int)) (
  gd ((0 : Int) ≤ v1 ∧ v1 ≤ (2147483647 : Int) ∧ (0 : Int) < (D.2 76 (Int.toNat 0)) ∧ (D.2 76 (Int.toNat 0)) ≤ (2147483647 : Int)) (
  gd ((0 : Int) ≤ 0 ∧ 0 < (4 : Int)) (
  gd ((0 : Int) ≤ v1 ∧ v1 ≤ (2147483647 : Int) ∧ (0 : Int) < (D.2 76 (Int.toNat 0)) ∧ (D.2 76 (Int.toNat 0)) ≤ (2147483647 : Int)) (
  gd (InR v2) (if v2 = 0 then (
    gd (InR (v1 % (D.2 76 (Int.toNat 0)))) (if (v1 % (D.2 76 (Int.toNat 0))) = 0 then (
      some (-1)
    ) else (
      some (v1 - 1)
    ))
  ) else (
    gd (InR v2 ∧ InR 1) (if v2 = 1 then (
      gd ((0 : Int) ≤ 0 ∧ 0 < (4 : Int)) (
      gd (InR ((v1 % (D.2 76 (Int.toNat 0))) + 1) ∧ InR (D.2 76 (Int.toNat 0))) (if ((v1 % (D.2 76 (Int.toNat 0))) + 1) = (D.2 76 (Int.toNat 0)) then (
        some (-1)
      ) else (
        some (v1 + 1)
      ))
      )
    ) else (
      gd (InR v2 ∧ InR 2) (if v2 = 2 then (
        gd (InR (v1 / (D.2 76 (Int.toNat 0)))) (if (v1 / (D.2 76 (Int.toNat 0))) = 0 then (
          some (-1)
        ) else (
          gd ((0 : Int) ≤ 0 ∧ 0 < (4 : Int)) (
          some (v1 - (D.2 76 (Int.toNat 0)))
          )
        ))
      ) else (
        gd ((0 : Int) ≤ 1 ∧ 1 < (4 : Int)) (
        gd (InR ((v1 / (D.2 76 (Int.toNat 0))) + 1) ∧ InR (D.2 76 (Int.toNat 1))) (if ((v1 / (D.2 76 (Int.toNat 0))) + 1) = (D.2 76 (Int.toNat 1)) then (
          some (-1)
        ) else (
          gd ((0 : Int) ≤ 0 ∧ 0 < (4 : Int)) (
          some (v1 + (D.2 76 (Int.toNat 0)))
          )
        ))
        )
      ))
    ))
  ))
  ))))
noncomputable def m_X11_sides_17 (v1 : Int) (v2 : Int) (v4 : Int) (D : DT) (s : (Int × Int)) : Option ((Int × Int) ⊕ Int) := loopF (fun s =>
  gd (InR s.2 ∧ InR 4) (if s.2 < 4 then (
    (m_X11_isLandOf v4 v1 D).bind (fun r27 =>
    gd (InR r27) (if r27 = 0 then (
      done (
      some (.inl (s.1, (v4 + 1)))
      )
    ) else (
      (m_X11_beside v4 s.2 D).bind (fun r38 =>
      gd (InR r38 ∧ InR (-1)) (if r38 = (-1) then (
        some (.inl (s.1, (s.2 + 1)))
      ) else (
        gd (InR v2) (if v2 = 0 then (
          (m_X11_isLand r38 D).bind (fun r69 =>
          gd (InR r69) (if r69 = 0 then (
            some (.inl (s.1, (s.2 + 1)))
          ) else (
            gd ((0 : Int) ≤ r38 ∧ r38 < (384 : Int)) (
            gd (InR (D.2 78 (Int.toNat r38)) ∧ InR v1) (if (D.2 78 (Int.toNat r38)) = v1 then (
              some (.inl (s.1, (s.2 + 1)))
            ) else (
              some (.inl ((s.1 + 1), (s.2 + 1)))
            ))
            )
          ))
          )
        ) else (
          gd ((0 : Int) ≤ r38 ∧ r38 < (384 : Int)) (
          gd (InR (D.2 80 (Int.toNat r38))) (if (D.2 80 (Int.toNat r38)) = 0 then (
            some (.inl (s.1, (s.2 + 1)))
          ) else (
            some (.inl ((s.1 + 1), (s.2 + 1)))
          ))
          )
        ))
      ))
      )
    ))
    )
  ) else (
    done (
    some (.inl (s.1, (v4 + 1)))
    )
  ))) s
noncomputable def m_X11_sides_5 (v1 : Int) (v2 : Int) (D : DT) (s : (Int × Int)) : Option Int := loopF (fun s =>
  (m_X11_cells D).bind (fun r8 =>
  gd (InR s.2 ∧ InR r8) (if s.2 < r8 then (
    m_X11_sides_17 v1 v2 s.2 D (s.1, 0)
  ) else (
    done (
    some s.1
    )
  ))
  )) s
noncomputable def m_X11_sides (v1 : Int) (v2 : Int) (D : DT) : Option Int :=
  m_X11_sides_5 v1 v2 D (0, 0)
noncomputable def m_X11_laysParts_87 (v1 : Int) (v2 : Int) (v3 : Int) (v5 : Int) (s : (Int × Int × DT)) : Option ((Int × Int × DT) ⊕ ((Int × Int × DT) ⊕ (Int × DT))) := loopF (fun s =>
  gd (InR s.2.1 ∧ InR 4) (if s.2.1 < 4 then (
    gd ((0 : Int) ≤ v5 ∧ v5 < (384 : Int)) (
    (m_X11_beside (s.2.2.2 96 (Int.toNat v5)) s.2.1 s.2.2).bind (fun r103 =>
    gd (InR r103 ∧ InR (-1)) (if r103 = (-1) then (
      some (.inl (s.1, (s.2.1 + 1), s.2.2))
    ) else (
      (m_X11_isLandOf r103 v1 s.2.2).bind (fun r118 =>
      gd (InR r118) (if r118 = 0 then (
        some (.inl (s.1, (s.2.1 + 1), s.2.2))
      ) else (
        gd ((0 : Int) ≤ r103 ∧ r103 < (384 : Int)) (
        gd (InR (s.2.2.2 95 (Int.toNat r103)) ∧ InR (-1)) (if (s.2.2.2 95 (Int.toNat r103)) = (-1) then (
          gd ((0 : Int) ≤ r103 ∧ r103 < (384 : Int)) (sq (sA s.2.2 95 (Int.toNat r103) v2) (fun D145 =>
          gd ((0 : Int) ≤ s.1 ∧ s.1 < (384 : Int)) (sq (sA D145 96 (Int.toNat s.1) r103) (fun D154 =>
          some (.inl ((s.1 + 1), (s.2.1 + 1), D154))
          ))))
        ) else (
          some (.inl (s.1, (s.2.1 + 1), s.2.2))
        ))
        )
      ))
      )
    ))
    ))
  ) else (
    done (
    some (.inl (s.1, (v5 + 1), s.2.2))
    )
  ))) s
noncomputable def m_X11_laysParts_77 (v1 : Int) (v2 : Int) (v3 : Int) (s : (Int × Int × DT)) : Option ((Int × Int × DT) ⊕ (Int × DT)) := loopF (fun s =>
  gd (InR s.2.1 ∧ InR s.1) (if s.2.1 < s.1 then (
    m_X11_laysParts_87 v1 v2 v3 s.2.1 (s.1, 0, s.2.2)
  ) else (
    done (
    some (.inl ((v2 + 1), (v3 + 1), s.2.2))
    )
  ))) s
noncomputable def m_X11_laysParts_27 (v1 : Int) (s : (Int × Int × DT)) : Option (Int × DT) := loopF (fun s =>
  (m_X11_cells s.2.2).bind (fun r29 =>
  gd (InR s.2.1 ∧ InR r29) (if s.2.1 < r29 then (
    (m_X11_isLandOf s.2.1 v1 s.2.2).bind (fun r38 =>
    gd (InR r38) (if r38 = 0 then (
      some (.inl (s.1, (s.2.1 + 1), s.2.2))
    ) else (
      gd ((0 : Int) ≤ s.2.1 ∧ s.2.1 < (384 : Int)) (
      gd (InR (s.2.2.2 95 (Int.toNat s.2.1)) ∧ InR (-1)) (if (s.2.2.2 95 (Int.toNat s.2.1)) = (-1) then (
        gd ((0 : Int) ≤ 0 ∧ 0 < (384 : Int)) (sq (sA s.2.2 96 (Int.toNat 0) s.2.1) (fun D66 =>
        gd ((0 : Int) ≤ s.2.1 ∧ s.2.1 < (384 : Int)) (sq (sA D66 95 (Int.toNat s.2.1) s.1) (fun D73 =>
        m_X11_laysParts_77 v1 s.1 s.2.1 (1, 0, D73)
        ))))
      ) else (
        some (.inl (s.1, (s.2.1 + 1), s.2.2))
      ))
      )
    ))
    )
  ) else (
    done (
    some (s.1, s.2.2)
    )
  ))
  )) s
noncomputable def m_X11_laysParts_4 (v1 : Int) (v2 : Int) (s : (Int × DT)) : Option (Int × DT) := loopF (fun s =>
  (m_X11_cells s.2).bind (fun r6 =>
  gd (InR s.1 ∧ InR r6) (if s.1 < r6 then (
    gd ((0 : Int) ≤ s.1 ∧ s.1 < (384 : Int)) (sq (sA s.2 95 (Int.toNat s.1) (-1)) (fun D18 =>
    some (.inl ((s.1 + 1), D18))
    ))
  ) else (
    done (
    m_X11_laysParts_27 v1 (v2, 0, s.2)
    )
  ))
  )) s
noncomputable def m_X11_laysParts (v1 : Int) (D : DT) : Option (Int × DT) :=
  m_X11_laysParts_4 v1 0 (0, D)
noncomputable def m_X11_isRunBegin (v1 : Int) (v2 : Int) (D : DT) : Option Int :=
  (m_X11_isLandOf v2 v1 D).bind (fun r3 =>
  gd (InR r3) (if r3 = 0 then (
    some 0
  ) else (
    gd ((0 : Int) ≤ 0 ∧ 0 < (4 : Int)) (
    gd ((0 : Int) ≤ v2 ∧ v2 ≤ (2147483647 : Int) ∧ (0 : Int) < (D.2 76 (Int.toNat 0)) ∧ (D.2 76 (Int.toNat 0)) ≤ (2147483647 : Int)) (
    gd (InR (v2 % (D.2 76 (Int.toNat 0)))) (if (v2 % (D.2 76 (Int.toNat 0))) = 0 then (
      some 1
    ) else (
      (m_X11_isLandOf (v2 - 1) v1 D).bind (fun r25 =>
      gd (InR r25) (if r25 = 0 then (
        some 1
      ) else (
        some 0
      ))
      )
    ))
    ))
  ))
  )
noncomputable def m_X11_runsIn_5 (v1 : Int) (v2 : Int) (D : DT) (s : (Int × Int)) : Option Int := loopF (fun s =>
  gd ((0 : Int) ≤ 0 ∧ 0 < (4 : Int)) (
  gd (InR s.2 ∧ InR (D.2 76 (Int.toNat 0))) (if s.2 < (D.2 76 (Int.toNat 0)) then (
    gd ((0 : Int) ≤ 0 ∧ 0 < (4 : Int)) (
    (m_X11_isRunBegin v1 (((D.2 76 (Int.toNat 0)) * v2) + s.2) D).bind (fun r30 =>
    gd (InR r30) (if r30 = 0 then (
      some (.inl ((s.1 + 0), (s.2 + 1)))
    ) else (
      some (.inl ((s.1 + 1), (s.2 + 1)))
    ))
    ))
  ) else (
    done (
    some s.1
    )
  ))
  )) s
noncomputable def m_X11_runsIn (v1 : Int) (v2 : Int) (D : DT) : Option Int :=
  m_X11_runsIn_5 v1 v2 D (0, 0)
noncomputable def m_X11_zone_79 (v1 : Int) (D : DT) (s : (Int × Int)) : Option (Int × DT) := loopF (fun s =>
  (m_X11_cells D).bind (fun r82 =>
  gd (InR s.2 ∧ InR r82) (if s.2 < r82 then (
    gd ((0 : Int) ≤ s.2 ∧ s.2 < (384 : Int)) (
    gd (InR (D.2 78 (Int.toNat s.2)) ∧ InR v1) (if (D.2 78 (Int.toNat s.2)) = v1 then (
      some (.inl ((s.1 + 1), (s.2 + 1)))
    ) else (
      some (.inl ((s.1 + 0), (s.2 + 1)))
    ))
    )
  ) else (
    done (
    some (s.1, D)
    )
  ))
  )) s
noncomputable def m_X11_zone_144 (v1 : Int) (D : DT) (s : (Int × Int)) : Option (Int × DT) := loopF (fun s =>
  gd ((0 : Int) ≤ 1 ∧ 1 < (4 : Int)) (
  gd (InR s.2 ∧ InR (D.2 76 (Int.toNat 1))) (if s.2 < (D.2 76 (Int.toNat 1)) then (
    (m_X11_runsIn v1 s.2 D).bind (fun r160 =>
    some (.inl ((s.1 + r160), (s.2 + 1)))
    )
  ) else (
    done (
    some (s.1, D)
    )
  ))
  )) s
noncomputable def m_X11_zone_28 (v1 : Int) (v2 : Int) (x0 : Int) (D : DT) : Option (Int × DT) :=
  bnd (m_X11_throwsIf x0 2 D) (fun r29 D29 =>
  gd (InR r29) (if r29 = 0 then (
    gd (InR v2) (
    if v2 = 0 then (
      m_X11_zone_79 v1 D29 (0, 0)
    ) else 
    if v2 = 1 then (
      (m_X11_land v1 D29).bind (fun r117 =>
      some (r117, D29)
      )
    ) else 
    if v2 = 2 then (
      bnd (m_X11_laysParts v1 D29) (fun r123 D123 =>
      some (r123, D123)
      )
    ) else 
    if v2 = 3 then (
      (m_X11_sides v1 1 D29).bind (fun r130 =>
      some (r130, D29)
      )
    ) else 
    if v2 = 4 then (
      (m_X11_sides v1 0 D29).bind (fun r137 =>
      some (r137, D29)
      )
    ) else 
    (
      m_X11_zone_144 v1 D29 (0, 0)
    ))
  ) else (
    some (0, D29)
  ))
  )
noncomputable def m_X11_zone (v1 : Int) (v2 : Int) (D : DT) : Option (Int × DT) :=
  sq (sF D 73 0 0) (fun D2 =>
  bnd (m_X11_noZone v1 D2) (fun r7 D7 =>
  gd (InR r7) (if r7 = 0 then (
    (m_X11_in v2 0 5 D7).bind (fun r17 =>
    gd (InR r17) (if r17 = 0 then (
      m_X11_zone_28 v1 v2 1 D7
    ) else (
      m_X11_zone_28 v1 v2 0 D7
    ))
    )
  ) else (
    some (0, D7)
  ))
  ))
noncomputable def m_X11_name (v1 : Int) (v2 : Int) (D : DT) : Option (Int × DT) :=
  sq (sF D 73 0 0) (fun D2 =>
  bnd (m_X11_noZone v1 D2) (fun r7 D7 =>
  gd (InR r7) (if r7 = 0 then (
    (m_X11_in v2 0 5 D7).bind (fun r18 =>
    gd (InR r18) (if r18 = 0 then (
      some ((-1), D7)
    ) else (
      gd ((0 : Int) ≤ ((6 * v1) + v2) ∧ ((6 * v1) + v2) < (48 : Int)) (
      gd (InR (D7.2 84 (Int.toNat ((6 * v1) + v2)))) (if (D7.2 84 (Int.toNat ((6 * v1) + v2))) = 0 then (
        some ((-1), D7)
      ) else (
        gd ((0 : Int) ≤ ((6 * v1) + v2) ∧ ((6 * v1) + v2) < (48 : Int)) (
        some ((D7.2 84 (Int.toNat ((6 * v1) + v2))), D7)
        )
      ))
      )
    ))
    )
  ) else (
    some (0, D7)
  ))
  ))
noncomputable def m_X11_people_37 (v1 : Int) (v2 : Int) (v3 : Int) (x0 : Int) (D : DT) : Option (Int × DT) :=
  bnd (m_X11_throwsIf x0 2 D) (fun r38 D38 =>
  gd (InR r38) (if r38 = 0 then (
    gd ((0 : Int) ≤ ((3 * v1) + v2) ∧ ((3 * v1) + v2) < (24 : Int)) (
    gd ((0 : Int) ≤ ((3 * v1) + v2) ∧ ((3 * v1) + v2) < (24 : Int)) (sq (sA D38 82 (Int.toNat ((3 * v1) + v2)) v3) (fun D68 =>
    some ((D38.2 82 (Int.toNat ((3 * v1) + v2))), D68)
    )))
  ) else (
    some (0, D38)
  ))
  )
noncomputable def m_X11_people (v1 : Int) (v2 : Int) (v3 : Int) (D : DT) : Option (Int × DT) :=
  sq (sF D 73 0 0) (fun D2 =>
  bnd (m_X11_noZone v1 D2) (fun r7 D7 =>
  gd (InR r7) (if r7 = 0 then (
    bnd (m_X11_noGroup v2 D7) (fun r15 D15 =>
    gd (InR r15) (if r15 = 0 then (
      (m_X11_in v3 0 99999 D15).bind (fun r26 =>
      gd (InR r26) (if r26 = 0 then (
        m_X11_people_37 v1 v2 v3 1 D15
      ) else (
        m_X11_people_37 v1 v2 v3 0 D15
      ))
      )
    ) else (
      some (0, D15)
    ))
    )
  ) else (
    some (0, D7)
  ))
  ))
noncomputable def m_X11_lives (v1 : Int) (v2 : Int) (D : DT) : Option (Int × DT) :=
  sq (sF D 73 0 0) (fun D2 =>
  bnd (m_X11_noZone v1 D2) (fun r7 D7 =>
  gd (InR r7) (if r7 = 0 then (
    bnd (m_X11_noGroup v2 D7) (fun r15 D15 =>
    gd (InR r15) (if r15 = 0 then (
      gd ((0 : Int) ≤ ((3 * v1) + v2) ∧ ((3 * v1) + v2) < (24 : Int)) (
      some ((D15.2 82 (Int.toNat ((3 * v1) + v2))), D15)
      )
    ) else (
      some (0, D15)
    ))
    )
  ) else (
    some (0, D7)
  ))
  ))
noncomputable def m_X11_flood (v1 : Int) (v2 : Int) (D : DT) : Option (Int × DT) :=
  sq (sF D 73 0 0) (fun D2 =>
  bnd (m_X11_noCell v1 D2) (fun r7 D7 =>
  gd (InR r7) (if r7 = 0 then (
    gd ((0 : Int) ≤ v1 ∧ v1 < (384 : Int)) (
    gd (((0 : Int) ≤ v1 ∧ v1 < (384 : Int)) ∧ ((v2 : Int) = 0 ∨ (v2 : Int) = 1)) (sq (sA D7 80 (Int.toNat v1) v2) (fun D28 =>
    (m_X11_laysOrders D28).bind (fun D30 =>
    gd (InR (D7.2 80 (Int.toNat v1)) ∧ InR v2) (if (D7.2 80 (Int.toNat v1)) = v2 then (
      some (0, D30)
    ) else (
      some (1, D30)
    ))
    ))))
  ) else (
    some (0, D7)
  ))
  ))
noncomputable def m_X11_unit (v1 : Int) (D : DT) : Option (Int × DT) :=
  sq (sF D 73 0 0) (fun D2 =>
  (m_X11_in v1 1 9999 D2).bind (fun r11 =>
  gd (InR r11) (if r11 = 0 then (
    bnd (m_X11_throwsIf 1 1 D2) (fun r23 D23 =>
    gd (InR r23) (if r23 = 0 then (
      sq (sF D23 73 14 v1) (fun D38 =>
      some ((D23.1 73 14), D38)
      )
    ) else (
      some (0, D23)
    ))
    )
  ) else (
    bnd (m_X11_throwsIf 0 1 D2) (fun r23 D23 =>
    gd (InR r23) (if r23 = 0 then (
      sq (sF D23 73 14 v1) (fun D38 =>
      some ((D23.1 73 14), D38)
      )
    ) else (
      some (0, D23)
    ))
    )
  ))
  ))
noncomputable def m_X11_factor (v1 : Int) (D : DT) : Option (Int × DT) :=
  sq (sF D 73 0 0) (fun D2 =>
  (m_X11_in v1 2 10 D2).bind (fun r10 =>
  gd (InR r10) (if r10 = 0 then (
    bnd (m_X11_throwsIf 1 1 D2) (fun r22 D22 =>
    gd (InR r22) (if r22 = 0 then (
      sq (sF D22 73 15 v1) (fun D37 =>
      some ((D22.1 73 15), D37)
      )
    ) else (
      some (0, D22)
    ))
    )
  ) else (
    bnd (m_X11_throwsIf 0 1 D2) (fun r22 D22 =>
    gd (InR r22) (if r22 = 0 then (
      sq (sF D22 73 15 v1) (fun D37 =>
      some ((D22.1 73 15), D37)
      )
    ) else (
      some (0, D22)
    ))
    )
  ))
  ))
noncomputable def m_X11_order (v1 : Int) (v2 : Int) (D : DT) : Option (Int × DT) :=
  sq (sF D 73 0 0) (fun D2 =>
  bnd (m_X11_noZone v1 D2) (fun r7 D7 =>
  gd (InR r7) (if r7 = 0 then (
    (m_X11_land v1 D7).bind (fun r19 =>
    (m_X11_in v2 0 (r19 - 1) D7).bind (fun r24 =>
    gd (InR r24) (if r24 = 0 then (
      some ((-1), D7)
    ) else (
      gd ((0 : Int) ≤ v1 ∧ v1 < (9 : Int)) (
      gd ((0 : Int) ≤ ((D7.2 87 (Int.toNat v1)) + v2) ∧ ((D7.2 87 (Int.toNat v1)) + v2) < (384 : Int)) (
      some ((D7.2 86 (Int.toNat ((D7.2 87 (Int.toNat v1)) + v2))), D7)
      ))
    ))
    ))
  ) else (
    some (0, D7)
  ))
  ))
noncomputable def m_X11_stands (v1 : Int) (D : DT) : Option (Int × DT) :=
  sq (sF D 73 0 0) (fun D2 =>
  bnd (m_X11_noCell v1 D2) (fun r7 D7 =>
  gd (InR r7) (if r7 = 0 then (
    gd ((0 : Int) ≤ v1 ∧ v1 < (384 : Int)) (
    some ((D7.2 88 (Int.toNat v1)), D7)
    )
  ) else (
    some (0, D7)
  ))
  ))
noncomputable def m_X11_dots (v1 : Int) (v2 : Int) (v3 : Int) (D : DT) : Option (Int × DT) :=
  sq (sF D 73 0 0) (fun D2 =>
  bnd (m_X11_noZone v1 D2) (fun r7 D7 =>
  gd (InR r7) (if r7 = 0 then (
    bnd (m_X11_noGroup v2 D7) (fun r15 D15 =>
    gd (InR r15) (if r15 = 0 then (
      bnd (m_X11_noLevel v3 D15) (fun r23 D23 =>
      gd (InR r23) (if r23 = 0 then (
        (m_X11_laysDots (D23.1 73 14) D23).bind (fun D36 =>
        (m_X11_dotsAt v3 v1 v2 D36).bind (fun r46 =>
        gd ((0 : Int) ≤ r46 ∧ r46 < (120 : Int)) (
        some ((D36.2 90 (Int.toNat r46)), D36)
        )))
      ) else (
        some (0, D23)
      ))
      )
    ) else (
      some (0, D15)
    ))
    )
  ) else (
    some (0, D7)
  ))
  ))
noncomputable def m_X11_carried (v1 : Int) (v2 : Int) (v3 : Int) (D : DT) : Option (Int × DT) :=
  sq (sF D 73 0 0) (fun D2 =>
  bnd (m_X11_noZone v1 D2) (fun r7 D7 =>
  gd (InR r7) (if r7 = 0 then (
    bnd (m_X11_noGroup v2 D7) (fun r15 D15 =>
    gd (InR r15) (if r15 = 0 then (
      bnd (m_X11_noLevel v3 D15) (fun r23 D23 =>
      gd (InR r23) (if r23 = 0 then (
        (m_X11_laysDots (D23.1 73 14) D23).bind (fun D36 =>
        (m_X11_dotsAt v3 v1 v2 D36).bind (fun r46 =>
        gd ((0 : Int) ≤ r46 ∧ r46 < (120 : Int)) (
        some ((D36.2 91 (Int.toNat r46)), D36)
        )))
      ) else (
        some (0, D23)
      ))
      )
    ) else (
      some (0, D15)
    ))
    )
  ) else (
    some (0, D7)
  ))
  ))
noncomputable def m_X11_left (v1 : Int) (v2 : Int) (D : DT) : Option (Int × DT) :=
  sq (sF D 73 0 0) (fun D2 =>
  bnd (m_X11_noGroup v1 D2) (fun r7 D7 =>
  gd (InR r7) (if r7 = 0 then (
    bnd (m_X11_noLevel v2 D7) (fun r15 D15 =>
    gd (InR r15) (if r15 = 0 then (
      (m_X11_laysDots (D15.1 73 14) D15).bind (fun D28 =>
      gd ((0 : Int) ≤ ((3 * v2) + v1) ∧ ((3 * v2) + v1) < (15 : Int)) (
      some ((D28.2 92 (Int.toNat ((3 * v2) + v1))), D28)
      ))
    ) else (
      some (0, D15)
    ))
    )
  ) else (
    some (0, D7)
  ))
  ))
noncomputable def m_X11_all_18 (v1 : Int) (v2 : Int) (D : DT) : Option (Int × DT) :=
  bnd (m_X11_noLevel v2 D) (fun r20 D20 =>
  gd (InR r20) (if r20 = 0 then (
    (m_X11_laysDots (D20.1 73 14) D20).bind (fun D33 =>
    (m_X11_allDots v1 v2 D33).bind (fun r39 =>
    some (r39, D33)
    ))
  ) else (
    some (0, D20)
  ))
  )
noncomputable def m_X11_all (v1 : Int) (v2 : Int) (D : DT) : Option (Int × DT) :=
  sq (sF D 73 0 0) (fun D2 =>
  gd (InR v1 ∧ InR (-1)) (if v1 = (-1) then (
    m_X11_all_18 v1 v2 D2
  ) else (
    bnd (m_X11_noGroup v1 D2) (fun r12 D12 =>
    gd (InR r12) (if r12 = 0 then (
      m_X11_all_18 v1 v2 D12
    ) else (
      some (0, D12)
    ))
    )
  ))
  )
noncomputable def m_X11_dot (v1 : Int) (v2 : Int) (v3 : Int) (v4 : Int) (D : DT) : Option (Int × DT) :=
  sq (sF D 73 0 0) (fun D2 =>
  bnd (m_X11_noZone v1 D2) (fun r7 D7 =>
  gd (InR r7) (if r7 = 0 then (
    bnd (m_X11_noGroup v2 D7) (fun r15 D15 =>
    gd (InR r15) (if r15 = 0 then (
      bnd (m_X11_noLevel v3 D15) (fun r23 D23 =>
      gd (InR r23) (if r23 = 0 then (
        (m_X11_laysDots (D23.1 73 14) D23).bind (fun D36 =>
        (m_X11_dotsAt v3 v1 v2 D36).bind (fun r50 =>
        gd ((0 : Int) ≤ r50 ∧ r50 < (120 : Int)) (
        (m_X11_in v4 0 ((D36.2 90 (Int.toNat r50)) - 1) D36).bind (fun r56 =>
        gd (InR r56) (if r56 = 0 then (
          bnd (m_X11_throwsIf 1 2 D36) (fun r68 D68 =>
          gd (InR r68) (if r68 = 0 then (
            (m_X11_cellOf v1 v2 v4 D68).bind (fun r83 =>
            some (r83, D68)
            )
          ) else (
            some (0, D68)
          ))
          )
        ) else (
          bnd (m_X11_throwsIf 0 2 D36) (fun r68 D68 =>
          gd (InR r68) (if r68 = 0 then (
            (m_X11_cellOf v1 v2 v4 D68).bind (fun r83 =>
            some (r83, D68)
            )
          ) else (
            some (0, D68)
          ))
          )
        ))
        ))))
      ) else (
        some (0, D23)
      ))
      )
    ) else (
      some (0, D15)
    ))
    )
  ) else (
    some (0, D7)
  ))
  ))
noncomputable def m_X11_crowd (v1 : Int) (v2 : Int) (v3 : Int) (D : DT) : Option (Int × DT) :=
  sq (sF D 73 0 0) (fun D2 =>
  bnd (m_X11_noCell v1 D2) (fun r7 D7 =>
  gd (InR r7) (if r7 = 0 then (
    gd (InR v2 ∧ InR (-1)) (if v2 = (-1) then (
      bnd (m_X11_noLevel v3 D7) (fun r28 D28 =>
      gd (InR r28) (if r28 = 0 then (
        (m_X11_laysCrowds v3 D28).bind (fun D38 =>
        (m_X11_crowdOf v1 v2 D38).bind (fun r44 =>
        some (r44, D38)
        ))
      ) else (
        some (0, D28)
      ))
      )
    ) else (
      bnd (m_X11_noGroup v2 D7) (fun r20 D20 =>
      gd (InR r20) (if r20 = 0 then (
        bnd (m_X11_noLevel v3 D20) (fun r28 D28 =>
        gd (InR r28) (if r28 = 0 then (
          (m_X11_laysCrowds v3 D28).bind (fun D38 =>
          (m_X11_crowdOf v1 v2 D38).bind (fun r44 =>
          some (r44, D38)
          ))
        ) else (
          some (0, D28)
        ))
        )
      ) else (
        some (0, D20)
      ))
      )
    ))
  ) else (
    some (0, D7)
  ))
  ))
noncomputable def m_X11_apart_36 (v3 : Int) (D : DT) (s : (Int × Int)) : Option ((Int × Int) ⊕ (Int × DT)) := loopF (fun s =>
  gd (InR s.2 ∧ InR v3) (if s.2 < v3 then (
    (m_X11_hasDots v3 D).bind (fun r44 =>
    gd (InR r44) (if r44 = 0 then (
      done (
      some (.inl (s.1, (v3 + 1)))
      )
    ) else (
      (m_X11_hasDots s.2 D).bind (fun r53 =>
      gd (InR r53) (if r53 = 0 then (
        some (.inl (s.1, (s.2 + 1)))
      ) else (
        (m_X11_far v3 s.2 D).bind (fun r63 =>
        gd (InR r63 ∧ InR s.1) (if r63 < s.1 then (
          (m_X11_far v3 s.2 D).bind (fun r74 =>
          some (.inl (r74, (s.2 + 1)))
          )
        ) else (
          some (.inl (s.1, (s.2 + 1)))
        ))
        )
      ))
      )
    ))
    )
  ) else (
    done (
    some (.inl (s.1, (v3 + 1)))
    )
  ))) s
noncomputable def m_X11_apart_25 (D : DT) (s : (Int × Int)) : Option (Int × DT) := loopF (fun s =>
  (m_X11_cells D).bind (fun r27 =>
  gd (InR s.2 ∧ InR r27) (if s.2 < r27 then (
    m_X11_apart_36 s.2 D (s.1, 0)
  ) else (
    done (
    gd (InR s.1 ∧ InR 268435456) (if s.1 = 268435456 then (
      some ((-1), D)
    ) else (
      some (s.1, D)
    ))
    )
  ))
  )) s
noncomputable def m_X11_apart (v1 : Int) (D : DT) : Option (Int × DT) :=
  sq (sF D 73 0 0) (fun D2 =>
  bnd (m_X11_noLevel v1 D2) (fun r7 D7 =>
  gd (InR r7) (if r7 = 0 then (
    (m_X11_laysCrowds v1 D7).bind (fun D17 =>
    m_X11_apart_25 D17 (268435456, 0)
    )
  ) else (
    some (0, D7)
  ))
  ))
noncomputable def m_X11_off (v1 : Int) (v2 : Int) (D : DT) : Option (Int × DT) :=
  sq (sF D 73 0 0) (fun D2 =>
  bnd (m_X11_noZone v1 D2) (fun r7 D7 =>
  gd (InR r7) (if r7 = 0 then (
    bnd (m_X11_noGroup v2 D7) (fun r15 D15 =>
    gd (InR r15) (if r15 = 0 then (
      (m_X11_laysDots (D15.1 73 14) D15).bind (fun D28 =>
      (m_X11_dotsAt 0 v1 v2 D28).bind (fun r38 =>
      gd ((0 : Int) ≤ r38 ∧ r38 < (120 : Int)) (
      gd ((0 : Int) ≤ ((3 * v1) + v2) ∧ ((3 * v1) + v2) < (24 : Int)) (
      some ((((D28.2 90 (Int.toNat r38)) * (D28.1 73 14)) - (D28.2 82 (Int.toNat ((3 * v1) + v2)))), D28)
      ))))
    ) else (
      some (0, D15)
    ))
    )
  ) else (
    some (0, D7)
  ))
  ))
noncomputable def m_X11_noEdge (v1 : Int) (v2 : Int) (v3 : Int) (v4 : Int) (v5 : Int) (D : DT) : Option (Int × DT) :=
  bnd (m_X11_noZone v1 D) (fun r2 D2 =>
  gd (InR r2) (if r2 = 0 then (
    bnd (m_X11_noZone v2 D2) (fun r10 D10 =>
    gd (InR r10) (if r10 = 0 then (
      bnd (m_X11_noRow v3 D10) (fun r18 D18 =>
      gd (InR r18) (if r18 = 0 then (
        some (0, D18)
      ) else (
        some (1, D18)
      ))
      )
    ) else (
      some (1, D10)
    ))
    )
  ) else (
    some (1, D2)
  ))
  )
noncomputable def m_X11_moves_82 (v1 : Int) (v2 : Int) (v6 : Int) (v7 : Int) (v8 : Int) (s : (Int × DT)) : Option (Int × DT) := loopF (fun s =>
  gd ((0 : Int) ≤ 3 ∧ 3 < (4 : Int)) (
  gd (InR s.1 ∧ InR (s.2.2 76 (Int.toNat 3))) (if s.1 < (s.2.2 76 (Int.toNat 3)) then (
    gd (InR v7) (if 0 < v7 then (
      gd ((0 : Int) ≤ ((3 * v1) + s.1) ∧ ((3 * v1) + s.1) < (24 : Int)) (
      gd (InR (s.2.2 82 (Int.toNat ((3 * v1) + s.1)))) (
      gd (InR v8) (
      gd (InR v7) (
      gd ((0 : Int) ≤ ((s.2.2 82 (Int.toNat ((3 * v1) + s.1))) * v8) ∧ ((s.2.2 82 (Int.toNat ((3 * v1) + s.1))) * v8) ≤ (9223372036854775807 : Int) ∧ (0 : Int) < v7 ∧ v7 ≤ (9223372036854775807 : Int)) (
      gd ((0 : Int) ≤ ((3 * v1) + s.1) ∧ ((3 * v1) + s.1) < (24 : Int)) (
      gd ((0 : Int) ≤ ((3 * v1) + s.1) ∧ ((3 * v1) + s.1) < (24 : Int)) (sq (sA s.2 82 (Int.toNat ((3 * v1) + s.1)) ((s.2.2 82 (Int.toNat ((3 * v1) + s.1))) - (((s.2.2 82 (Int.toNat ((3 * v1) + s.1))) * v8) / v7))) (fun D136 =>
      gd ((0 : Int) ≤ ((3 * v2) + s.1) ∧ ((3 * v2) + s.1) < (24 : Int)) (
      gd (InR ((D136.2 82 (Int.toNat ((3 * v2) + s.1))) + (((s.2.2 82 (Int.toNat ((3 * v1) + s.1))) * v8) / v7)) ∧ InR 99999) (if 99999 < ((D136.2 82 (Int.toNat ((3 * v2) + s.1))) + (((s.2.2 82 (Int.toNat ((3 * v1) + s.1))) * v8) / v7)) then (
        gd ((0 : Int) ≤ ((3 * v2) + s.1) ∧ ((3 * v2) + s.1) < (24 : Int)) (sq (sA D136 82 (Int.toNat ((3 * v2) + s.1)) 99999) (fun D177 =>
        some (.inl ((s.1 + 1), D177))
        ))
      ) else (
        gd ((0 : Int) ≤ ((3 * v2) + s.1) ∧ ((3 * v2) + s.1) < (24 : Int)) (sq (sA D136 82 (Int.toNat ((3 * v2) + s.1)) ((D136.2 82 (Int.toNat ((3 * v2) + s.1))) + (((s.2.2 82 (Int.toNat ((3 * v1) + s.1))) * v8) / v7))) (fun D177 =>
        some (.inl ((s.1 + 1), D177))
        ))
      ))
      )))))))))
    ) else (
      done (
      some (v6, s.2)
      )
    ))
  ) else (
    done (
    some (v6, s.2)
    )
  ))
  )) s
noncomputable def m_X11_moves_14 (v1 : Int) (v2 : Int) (v3 : Int) (v5 : Int) (v7 : Int) (s : (Int × Int × DT)) : Option (Int × DT) := loopF (fun s =>
  gd (InR s.2.1 ∧ InR v5) (if s.2.1 ≤ v5 then (
    gd ((0 : Int) ≤ 0 ∧ 0 < (4 : Int)) (
    gd ((0 : Int) ≤ (((s.2.2.2 76 (Int.toNat 0)) * v3) + s.2.1) ∧ (((s.2.2.2 76 (Int.toNat 0)) * v3) + s.2.1) < (384 : Int)) (
    gd (InR (s.2.2.2 78 (Int.toNat (((s.2.2.2 76 (Int.toNat 0)) * v3) + s.2.1))) ∧ InR v1) (if (s.2.2.2 78 (Int.toNat (((s.2.2.2 76 (Int.toNat 0)) * v3) + s.2.1))) = v1 then (
      gd ((0 : Int) ≤ (((s.2.2.2 76 (Int.toNat 0)) * v3) + s.2.1) ∧ (((s.2.2.2 76 (Int.toNat 0)) * v3) + s.2.1) < (384 : Int)) (sq (sA s.2.2 78 (Int.toNat (((s.2.2.2 76 (Int.toNat 0)) * v3) + s.2.1)) v2) (fun D55 =>
      some (.inl ((s.1 + 1), (s.2.1 + 1), D55))
      ))
    ) else (
      some (.inl (s.1, (s.2.1 + 1), s.2.2))
    ))
    ))
  ) else (
    done (
    (m_X11_laysOrders s.2.2).bind (fun D66 =>
    (m_X11_land v1 D66).bind (fun r73 =>
    m_X11_moves_82 v1 v2 s.1 v7 (v7 - r73) (0, D66)
    ))
    )
  ))) s
noncomputable def m_X11_moves (v1 : Int) (v2 : Int) (v3 : Int) (v4 : Int) (v5 : Int) (D : DT) : Option (Int × DT) :=
  (m_X11_land v1 D).bind (fun r5 =>
  m_X11_moves_14 v1 v2 v3 v5 r5 (0, v4, D)
  )
noncomputable def m_X11_noRun_27 (D : DT) : Option (Int × DT) :=
  bnd (m_X11_throwsIf 1 2 D) (fun r33 D33 =>
  gd (r33 = 0 ∨ r33 = 1) (some (r33, D33))
  )
noncomputable def m_X11_noRun (v1 : Int) (v2 : Int) (v3 : Int) (v4 : Int) (D : DT) : Option (Int × DT) :=
  gd (InR v1 ∧ InR v2) (if v1 = v2 then (
    m_X11_noRun_27 D
  ) else (
    gd (InR v3) (if 0 ≤ v3 then (
      gd (InR v4 ∧ InR v3) (if v3 ≤ v4 then (
        gd ((0 : Int) ≤ 0 ∧ 0 < (4 : Int)) (
        gd (InR v4 ∧ InR (D.2 76 (Int.toNat 0))) (if (D.2 76 (Int.toNat 0)) ≤ v4 then (
          m_X11_noRun_27 D
        ) else (
          bnd (m_X11_throwsIf 0 2 D) (fun r33 D33 =>
          gd (r33 = 0 ∨ r33 = 1) (some (r33, D33))
          )
        ))
        )
      ) else (
        m_X11_noRun_27 D
      ))
    ) else (
      m_X11_noRun_27 D
    ))
  ))
noncomputable def m_X11_move (v1 : Int) (v2 : Int) (v3 : Int) (v4 : Int) (v5 : Int) (D : DT) : Option (Int × DT) :=
  sq (sF D 73 0 0) (fun D2 =>
  bnd (m_X11_noEdge v1 v2 v3 v4 v5 D2) (fun r13 D13 =>
  gd (InR r13) (if r13 = 0 then (
    bnd (m_X11_noRun v1 v2 v4 v5 D13) (fun r26 D26 =>
    gd (InR r26) (if r26 = 0 then (
      bnd (m_X11_moves v1 v2 v3 v4 v5 D26) (fun r42 D42 =>
      some (r42, D42)
      )
    ) else (
      some (0, D26)
    ))
    )
  ) else (
    some (0, D13)
  ))
  ))
noncomputable def m_X11_keepsAll_29 (s : (Int × DT)) : Option DT := loopF (fun s =>
  gd (InR s.1 ∧ InR 24) (if s.1 < 24 then (
    gd ((0 : Int) ≤ s.1 ∧ s.1 < (24 : Int)) (
    gd ((0 : Int) ≤ s.1 ∧ s.1 < (24 : Int)) (sq (sA s.2 98 (Int.toNat s.1) (s.2.2 82 (Int.toNat s.1))) (fun D46 =>
    some (.inl ((s.1 + 1), D46))
    )))
  ) else (
    done (
    some s.2
    )
  ))) s
noncomputable def m_X11_keepsAll_2 (s : (Int × DT)) : Option DT := loopF (fun s =>
  gd (InR s.1 ∧ InR 384) (if s.1 < 384 then (
    gd ((0 : Int) ≤ s.1 ∧ s.1 < (384 : Int)) (
    gd ((0 : Int) ≤ s.1 ∧ s.1 < (384 : Int)) (sq (sA s.2 97 (Int.toNat s.1) (s.2.2 78 (Int.toNat s.1))) (fun D20 =>
    some (.inl ((s.1 + 1), D20))
    )))
  ) else (
    done (
    m_X11_keepsAll_29 (0, s.2)
    )
  ))) s
noncomputable def m_X11_keepsAll (D : DT) : Option DT :=
  m_X11_keepsAll_2 (0, D)
noncomputable def m_X11_bringsBack_29 (s : (Int × DT)) : Option DT := loopF (fun s =>
  gd (InR s.1 ∧ InR 24) (if s.1 < 24 then (
    gd ((0 : Int) ≤ s.1 ∧ s.1 < (24 : Int)) (
    gd ((0 : Int) ≤ s.1 ∧ s.1 < (24 : Int)) (sq (sA s.2 82 (Int.toNat s.1) (s.2.2 98 (Int.toNat s.1))) (fun D46 =>
    some (.inl ((s.1 + 1), D46))
    )))
  ) else (
    done (
    (m_X11_laysOrders s.2).bind (fun D54 =>
    some D54
    )
    )
  ))) s
noncomputable def m_X11_bringsBack_2 (s : (Int × DT)) : Option DT := loopF (fun s =>
  gd (InR s.1 ∧ InR 384) (if s.1 < 384 then (
    gd ((0 : Int) ≤ s.1 ∧ s.1 < (384 : Int)) (
    gd ((0 : Int) ≤ s.1 ∧ s.1 < (384 : Int)) (sq (sA s.2 78 (Int.toNat s.1) (s.2.2 97 (Int.toNat s.1))) (fun D20 =>
    some (.inl ((s.1 + 1), D20))
    )))
  ) else (
    done (
    m_X11_bringsBack_29 (0, s.2)
    )
  ))) s
noncomputable def m_X11_bringsBack (D : DT) : Option DT :=
  m_X11_bringsBack_2 (0, D)
noncomputable def m_X11_tries_109 (D : DT) (s : (Int × Int)) : Option (Int × DT) := loopF (fun s =>
  gd (InR s.2 ∧ InR 1152) (if s.2 < 1152 then (
    gd ((0 : Int) ≤ s.2 ∧ s.2 < (1152 : Int)) (
    gd ((0 : Int) ≤ s.2 ∧ s.2 < (1152 : Int)) (
    gd (InR (D.2 93 (Int.toNat s.2)) ∧ InR (D.2 94 (Int.toNat s.2))) (if (D.2 94 (Int.toNat s.2)) < (D.2 93 (Int.toNat s.2)) then (
      gd ((0 : Int) ≤ s.2 ∧ s.2 < (1152 : Int)) (
      gd ((0 : Int) ≤ s.2 ∧ s.2 < (1152 : Int)) (
      some (.inl ((s.1 + ((D.2 93 (Int.toNat s.2)) - (D.2 94 (Int.toNat s.2)))), (s.2 + 1)))
      ))
    ) else (
      some (.inl ((s.1 + 0), (s.2 + 1)))
    ))
    ))
  ) else (
    done (
    (m_X11_bringsBack D).bind (fun D165 =>
    some (s.1, D165)
    )
    )
  ))) s
noncomputable def m_X11_tries_52 (v1 : Int) (v2 : Int) (v3 : Int) (v4 : Int) (v5 : Int) (v6 : Int) (s : (Int × DT)) : Option (Int × DT) := loopF (fun s =>
  gd (InR s.1 ∧ InR 1152) (if s.1 < 1152 then (
    gd ((0 : Int) ≤ s.1 ∧ s.1 < (1152 : Int)) (
    gd ((0 : Int) ≤ s.1 ∧ s.1 < (1152 : Int)) (sq (sA s.2 94 (Int.toNat s.1) (s.2.2 93 (Int.toNat s.1))) (fun D73 =>
    some (.inl ((s.1 + 1), D73))
    )))
  ) else (
    done (
    (m_X11_keepsAll s.2).bind (fun D81 =>
    bnd (m_X11_moves v1 v2 v3 v4 v5 D81) (fun r92 D92 =>
    (m_X11_laysCrowds v6 D92).bind (fun D100 =>
    m_X11_tries_109 D100 (0, 0)
    )))
    )
  ))) s
noncomputable def m_X11_tries (v1 : Int) (v2 : Int) (v3 : Int) (v4 : Int) (v5 : Int) (v6 : Int) (D : DT) : Option (Int × DT) :=
  sq (sF D 73 0 0) (fun D2 =>
  bnd (m_X11_noEdge v1 v2 v3 v4 v5 D2) (fun r13 D13 =>
  gd (InR r13) (if r13 = 0 then (
    bnd (m_X11_noLevel v6 D13) (fun r22 D22 =>
    gd (InR r22) (if r22 = 0 then (
      bnd (m_X11_noRun v1 v2 v4 v5 D22) (fun r35 D35 =>
      gd (InR r35) (if r35 = 0 then (
        (m_X11_laysCrowds v6 D35).bind (fun D46 =>
        m_X11_tries_52 v1 v2 v3 v4 v5 v6 (0, D46)
        )
      ) else (
        some (0, D35)
      ))
      )
    ) else (
      some (0, D22)
    ))
    )
  ) else (
    some (0, D13)
  ))
  ))
noncomputable def m_X11_runEnd_2 (v1 : Int) (D : DT) (s : Int) : Option Int := loopF (fun s =>
  gd ((0 : Int) ≤ 0 ∧ 0 < (4 : Int)) (
  gd ((0 : Int) ≤ s ∧ s ≤ (2147483647 : Int) ∧ (0 : Int) < (D.2 76 (Int.toNat 0)) ∧ (D.2 76 (Int.toNat 0)) ≤ (2147483647 : Int)) (
  gd ((0 : Int) ≤ 0 ∧ 0 < (4 : Int)) (
  gd (InR ((s % (D.2 76 (Int.toNat 0))) + 1) ∧ InR (D.2 76 (Int.toNat 0))) (if ((s % (D.2 76 (Int.toNat 0))) + 1) < (D.2 76 (Int.toNat 0)) then (
    (m_X11_isLandOf (s + 1) v1 D).bind (fun r26 =>
    gd (InR r26) (if r26 = 0 then (
      done (
      some s
      )
    ) else (
      some (.inl (s + 1))
    ))
    )
  ) else (
    done (
    some s
    )
  ))
  )))) s
noncomputable def m_X11_runEnd (v1 : Int) (v2 : Int) (D : DT) : Option Int :=
  m_X11_runEnd_2 v1 D v2
noncomputable def m_X11_run_41 (v1 : Int) (v2 : Int) (v3 : Int) (v4 : Int) (D : DT) (s : (Int × Int)) : Option (Int × DT) := loopF (fun s =>
  gd ((0 : Int) ≤ 0 ∧ 0 < (4 : Int)) (
  gd (InR s.2 ∧ InR (D.2 76 (Int.toNat 0))) (if s.2 < (D.2 76 (Int.toNat 0)) then (
    gd ((0 : Int) ≤ 0 ∧ 0 < (4 : Int)) (
    (m_X11_isRunBegin v1 (((D.2 76 (Int.toNat 0)) * v2) + s.2) D).bind (fun r69 =>
    gd (InR r69) (if r69 = 0 then (
      some (.inl (s.1, (s.2 + 1)))
    ) else (
      gd (InR s.1 ∧ InR v3) (if s.1 = v3 then (
        done (
        gd (InR v4) (if v4 = 0 then (
          some (s.2, D)
        ) else (
          (m_X11_runEnd v1 (((D.2 76 (Int.toNat 0)) * v2) + s.2) D).bind (fun r93 =>
          gd ((0 : Int) ≤ 0 ∧ 0 < (4 : Int)) (
          gd ((0 : Int) ≤ r93 ∧ r93 ≤ (2147483647 : Int) ∧ (0 : Int) < (D.2 76 (Int.toNat 0)) ∧ (D.2 76 (Int.toNat 0)) ≤ (2147483647 : Int)) (
          some ((r93 % (D.2 76 (Int.toNat 0))), D)
          )))
        ))
        )
      ) else (
        some (.inl ((s.1 + 1), (s.2 + 1)))
      ))
    ))
    ))
  ) else (
    done (
    some ((-1), D)
    )
  ))
  )) s
noncomputable def m_X11_run (v1 : Int) (v2 : Int) (v3 : Int) (v4 : Int) (D : DT) : Option (Int × DT) :=
  sq (sF D 73 0 0) (fun D2 =>
  bnd (m_X11_noZone v1 D2) (fun r7 D7 =>
  gd (InR r7) (if r7 = 0 then (
    bnd (m_X11_noRow v2 D7) (fun r15 D15 =>
    gd (InR r15) (if r15 = 0 then (
      gd (InR v3 ∧ InR (-1)) (if v3 = (-1) then (
        (m_X11_runsIn v1 v2 D15).bind (fun r31 =>
        some (r31, D15)
        )
      ) else (
        m_X11_run_41 v1 v2 v3 v4 D15 (0, 0)
      ))
    ) else (
      some (0, D15)
    ))
    )
  ) else (
    some (0, D7)
  ))
  ))
noncomputable def m_X11_part (v1 : Int) (D : DT) : Option (Int × DT) :=
  sq (sF D 73 0 0) (fun D2 =>
  bnd (m_X11_noCell v1 D2) (fun r7 D7 =>
  gd (InR r7) (if r7 = 0 then (
    (m_X11_isLand v1 D7).bind (fun r15 =>
    gd (InR r15) (if r15 = 0 then (
      gd (InR (D7.1 73 0)) (if 0 < (D7.1 73 0) then (
        some (0, D7)
      ) else (
        some ((-1), D7)
      ))
    ) else (
      gd ((0 : Int) ≤ v1 ∧ v1 < (384 : Int)) (
      bnd (m_X11_laysParts (D7.2 78 (Int.toNat v1)) D7) (fun r41 D41 =>
      gd ((0 : Int) ≤ v1 ∧ v1 < (384 : Int)) (
      some ((D41.2 95 (Int.toNat v1)), D41)
      )))
    ))
    )
  ) else (
    gd (InR (D7.1 73 0)) (if 0 < (D7.1 73 0) then (
      some (0, D7)
    ) else (
      some ((-1), D7)
    ))
  ))
  ))
noncomputable def m_X11_leastFar_43 (v1 : Int) (v2 : Int) (v3 : Int) (v4 : Int) (D : DT) : Option ((Int × Int) ⊕ Int) :=
  (m_X11_far v4 v1 D).bind (fun r47 =>
  gd (InR v3 ∧ InR (-1)) (if v3 = (-1) then (
    some (.inl (r47, (v4 + 1)))
  ) else (
    gd (InR r47 ∧ InR v3) (if r47 < v3 then (
      some (.inl (r47, (v4 + 1)))
    ) else (
      some (.inl (v3, (v4 + 1)))
    ))
  ))
  )
noncomputable def m_X11_leastFar_5 (v1 : Int) (v2 : Int) (D : DT) (s : (Int × Int)) : Option Int := loopF (fun s =>
  (m_X11_cells D).bind (fun r8 =>
  gd (InR s.2 ∧ InR r8) (if s.2 < r8 then (
    gd (InR v2) (if v2 = 0 then (
      (m_X11_hasDots s.2 D).bind (fun r34 =>
      gd (InR r34) (if r34 = 0 then (
        some (.inl (s.1, (s.2 + 1)))
      ) else (
        m_X11_leastFar_43 v1 v2 s.1 s.2 D
      ))
      )
    ) else (
      gd ((0 : Int) ≤ s.2 ∧ s.2 < (384 : Int)) (
      gd (InR (D.2 80 (Int.toNat s.2))) (if (D.2 80 (Int.toNat s.2)) = 0 then (
        some (.inl (s.1, (s.2 + 1)))
      ) else (
        m_X11_leastFar_43 v1 v2 s.1 s.2 D
      ))
      )
    ))
  ) else (
    done (
    some s.1
    )
  ))
  )) s
noncomputable def m_X11_leastFar (v1 : Int) (v2 : Int) (D : DT) : Option Int :=
  m_X11_leastFar_5 v1 v2 D ((-1), 0)
noncomputable def m_X11_measureOf_46 (v1 : Int) (v3 : Int) (D : DT) (s : (Int × Int)) : Option Int := loopF (fun s =>
  (m_X11_cells D).bind (fun r49 =>
  gd (InR s.2 ∧ InR r49) (if s.2 < r49 then (
    (m_X11_far s.2 v1 D).bind (fun r61 =>
    gd (InR r61 ∧ InR v3) (if r61 ≤ v3 then (
      (m_X11_crowdOf s.2 (-1) D).bind (fun r72 =>
      some (.inl ((s.1 + r72), (s.2 + 1)))
      )
    ) else (
      some (.inl ((s.1 + 0), (s.2 + 1)))
    ))
    )
  ) else (
    done (
    some s.1
    )
  ))
  )) s
noncomputable def m_X11_measureOf_108 (v1 : Int) (D : DT) (s : (Int × Int)) : Option Int := loopF (fun s =>
  (m_X11_cells D).bind (fun r111 =>
  gd (InR s.2 ∧ InR r111) (if s.2 < r111 then (
    (m_X11_hasDots s.2 D).bind (fun r122 =>
    gd (InR r122) (if r122 = 0 then (
      some (.inl ((s.1 + 0), (s.2 + 1)))
    ) else (
      gd ((0 : Int) ≤ 0 ∧ 0 < (4 : Int)) (
      gd ((0 : Int) ≤ s.2 ∧ s.2 ≤ (2147483647 : Int) ∧ (0 : Int) < (D.2 76 (Int.toNat 0)) ∧ (D.2 76 (Int.toNat 0)) ≤ (2147483647 : Int)) (
      gd ((0 : Int) ≤ 0 ∧ 0 < (4 : Int)) (
      gd ((0 : Int) ≤ v1 ∧ v1 ≤ (2147483647 : Int) ∧ (0 : Int) < (D.2 76 (Int.toNat 0)) ∧ (D.2 76 (Int.toNat 0)) ≤ (2147483647 : Int)) (
      gd (InR (s.2 / (D.2 76 (Int.toNat 0))) ∧ InR (v1 / (D.2 76 (Int.toNat 0)))) (if (s.2 / (D.2 76 (Int.toNat 0))) = (v1 / (D.2 76 (Int.toNat 0))) then (
        some (.inl ((s.1 + 1), (s.2 + 1)))
      ) else (
        gd ((0 : Int) ≤ 0 ∧ 0 < (4 : Int)) (
        gd ((0 : Int) ≤ s.2 ∧ s.2 ≤ (2147483647 : Int) ∧ (0 : Int) < (D.2 76 (Int.toNat 0)) ∧ (D.2 76 (Int.toNat 0)) ≤ (2147483647 : Int)) (
        gd ((0 : Int) ≤ 0 ∧ 0 < (4 : Int)) (
        gd ((0 : Int) ≤ v1 ∧ v1 ≤ (2147483647 : Int) ∧ (0 : Int) < (D.2 76 (Int.toNat 0)) ∧ (D.2 76 (Int.toNat 0)) ≤ (2147483647 : Int)) (
        gd (InR (s.2 % (D.2 76 (Int.toNat 0))) ∧ InR (v1 % (D.2 76 (Int.toNat 0)))) (if (s.2 % (D.2 76 (Int.toNat 0))) = (v1 % (D.2 76 (Int.toNat 0))) then (
          some (.inl ((s.1 + 1), (s.2 + 1)))
        ) else (
          some (.inl ((s.1 + 0), (s.2 + 1)))
        ))
        ))))
      ))
      ))))
    ))
    )
  ) else (
    done (
    some s.1
    )
  ))
  )) s
noncomputable def m_X11_measureOf (v1 : Int) (v2 : Int) (v3 : Int) (D : DT) : Option Int :=
  gd (InR v2) (
  if v2 = 0 then (
    (m_X11_crowdOf v1 (-1) D).bind (fun r39 =>
    some r39
    )
  ) else 
  if v2 = 1 then (
    m_X11_measureOf_46 v1 v3 D (0, 0)
  ) else 
  if v2 = 2 then (
    (m_X11_leastFar v1 0 D).bind (fun r94 =>
    some r94
    )
  ) else 
  if v2 = 3 then (
    (m_X11_leastFar v1 1 D).bind (fun r101 =>
    some r101
    )
  ) else 
  (
    m_X11_measureOf_108 v1 D (0, 0)
  ))
noncomputable def m_X11_noMeasure_15 (v2 : Int) (x0 : Int) (D : DT) : Option (Int × DT) :=
  bnd (m_X11_throwsIf x0 2 D) (fun r16 D16 =>
  gd (InR r16) (if r16 = 0 then (
    (m_X11_in v2 0 999 D16).bind (fun r28 =>
    gd (InR r28) (if r28 = 0 then (
      bnd (m_X11_throwsIf 1 3 D16) (fun r40 D40 =>
      gd (InR r40) (if r40 = 0 then (
        some (0, D40)
      ) else (
        some (1, D40)
      ))
      )
    ) else (
      bnd (m_X11_throwsIf 0 3 D16) (fun r40 D40 =>
      gd (InR r40) (if r40 = 0 then (
        some (0, D40)
      ) else (
        some (1, D40)
      ))
      )
    ))
    )
  ) else (
    some (1, D16)
  ))
  )
noncomputable def m_X11_noMeasure (v1 : Int) (v2 : Int) (D : DT) : Option (Int × DT) :=
  (m_X11_in v1 0 4 D).bind (fun r4 =>
  gd (InR r4) (if r4 = 0 then (
    m_X11_noMeasure_15 v2 1 D
  ) else (
    m_X11_noMeasure_15 v2 0 D
  ))
  )
noncomputable def m_X11_measure (v1 : Int) (v2 : Int) (v3 : Int) (v4 : Int) (D : DT) : Option (Int × DT) :=
  sq (sF D 73 0 0) (fun D2 =>
  bnd (m_X11_noCell v1 D2) (fun r7 D7 =>
  gd (InR r7) (if r7 = 0 then (
    bnd (m_X11_noLevel v3 D7) (fun r15 D15 =>
    gd (InR r15) (if r15 = 0 then (
      bnd (m_X11_noMeasure v2 v4 D15) (fun r25 D25 =>
      gd (InR r25) (if r25 = 0 then (
        (m_X11_laysCrowds v3 D25).bind (fun D35 =>
        (m_X11_measureOf v1 v2 v4 D35).bind (fun r43 =>
        some (r43, D35)
        ))
      ) else (
        some (0, D25)
      ))
      )
    ) else (
      some (0, D15)
    ))
    )
  ) else (
    some (0, D7)
  ))
  ))
noncomputable def m_X11_best_38 (v1 : Int) (v3 : Int) (D : DT) (s : (Int × Int × Int)) : Option (Int × DT) := loopF (fun s =>
  (m_X11_cells D).bind (fun r41 =>
  gd (InR s.2.2 ∧ InR r41) (if s.2.2 < r41 then (
    (m_X11_isLand s.2.2 D).bind (fun r50 =>
    gd (InR r50) (if r50 = 0 then (
      some (.inl (s.1, s.2.1, (s.2.2 + 1)))
    ) else (
      (m_X11_measureOf s.2.2 v1 v3 D).bind (fun r64 =>
      gd (InR s.1 ∧ InR (-1)) (if s.1 = (-1) then (
        some (.inl (s.2.2, r64, (s.2.2 + 1)))
      ) else (
        gd (InR r64 ∧ InR s.2.1) (if r64 ≤ s.2.1 then (
          some (.inl (s.1, s.2.1, (s.2.2 + 1)))
        ) else (
          some (.inl (s.2.2, r64, (s.2.2 + 1)))
        ))
      ))
      )
    ))
    )
  ) else (
    done (
    some (s.1, D)
    )
  ))
  )) s
noncomputable def m_X11_best (v1 : Int) (v2 : Int) (v3 : Int) (D : DT) : Option (Int × DT) :=
  sq (sF D 73 0 0) (fun D2 =>
  bnd (m_X11_noLevel v2 D2) (fun r7 D7 =>
  gd (InR r7) (if r7 = 0 then (
    bnd (m_X11_noMeasure v1 v3 D7) (fun r16 D16 =>
    gd (InR r16) (if r16 = 0 then (
      (m_X11_laysCrowds v2 D16).bind (fun D26 =>
      m_X11_best_38 v1 v3 D26 ((-1), 0, 0)
      )
    ) else (
      some (0, D16)
    ))
    )
  ) else (
    some (0, D7)
  ))
  ))
noncomputable def m_X11_nearestTo_4 (v1 : Int) (D : DT) (s : (Int × Int)) : Option Int := loopF (fun s =>
  (m_X11_cells D).bind (fun r6 =>
  gd (InR s.2 ∧ InR r6) (if s.2 < r6 then (
    (m_X11_hasDots s.2 D).bind (fun r14 =>
    gd (InR r14) (if r14 = 0 then (
      some (.inl (s.1, (s.2 + 1)))
    ) else (
      gd (InR s.1 ∧ InR (-1)) (if s.1 = (-1) then (
        some (.inl (s.2, (s.2 + 1)))
      ) else (
        (m_X11_far s.2 v1 D).bind (fun r28 =>
        (m_X11_far s.1 v1 D).bind (fun r34 =>
        gd (InR r28 ∧ InR r34) (if r28 < r34 then (
          some (.inl (s.2, (s.2 + 1)))
        ) else (
          some (.inl (s.1, (s.2 + 1)))
        ))
        ))
      ))
    ))
    )
  ) else (
    done (
    some s.1
    )
  ))
  )) s
noncomputable def m_X11_nearestTo (v1 : Int) (D : DT) : Option Int :=
  m_X11_nearestTo_4 v1 D ((-1), 0)
noncomputable def m_X11_nearest (v1 : Int) (v2 : Int) (D : DT) : Option (Int × DT) :=
  sq (sF D 73 0 0) (fun D2 =>
  bnd (m_X11_noCell v1 D2) (fun r7 D7 =>
  gd (InR r7) (if r7 = 0 then (
    bnd (m_X11_noLevel v2 D7) (fun r15 D15 =>
    gd (InR r15) (if r15 = 0 then (
      (m_X11_laysCrowds v2 D15).bind (fun D25 =>
      (m_X11_nearestTo v1 D25).bind (fun r30 =>
      some (r30, D25)
      ))
    ) else (
      some (0, D15)
    ))
    )
  ) else (
    some (0, D7)
  ))
  ))
noncomputable def m_X11_served_33 (v1 : Int) (D : DT) (s : (Int × Int)) : Option (Int × DT) := loopF (fun s =>
  (m_X11_cells D).bind (fun r36 =>
  gd (InR s.2 ∧ InR r36) (if s.2 < r36 then (
    (m_X11_hasDots v1 D).bind (fun r44 =>
    gd (InR r44) (if r44 = 0 then (
      done (
      some (s.1, D)
      )
    ) else (
      (m_X11_isLand s.2 D).bind (fun r54 =>
      gd (InR r54) (if r54 = 0 then (
        some (.inl ((s.1 + 0), (s.2 + 1)))
      ) else (
        (m_X11_nearestTo s.2 D).bind (fun r63 =>
        gd (InR r63 ∧ InR v1) (if r63 = v1 then (
          some (.inl ((s.1 + 1), (s.2 + 1)))
        ) else (
          some (.inl ((s.1 + 0), (s.2 + 1)))
        ))
        )
      ))
      )
    ))
    )
  ) else (
    done (
    some (s.1, D)
    )
  ))
  )) s
noncomputable def m_X11_served (v1 : Int) (v2 : Int) (D : DT) : Option (Int × DT) :=
  sq (sF D 73 0 0) (fun D2 =>
  bnd (m_X11_noCell v1 D2) (fun r7 D7 =>
  gd (InR r7) (if r7 = 0 then (
    bnd (m_X11_noLevel v2 D7) (fun r15 D15 =>
    gd (InR r15) (if r15 = 0 then (
      (m_X11_laysCrowds v2 D15).bind (fun D25 =>
      m_X11_served_33 v1 D25 (0, 0)
      )
    ) else (
      some (0, D15)
    ))
    )
  ) else (
    some (0, D7)
  ))
  ))
noncomputable def m_X11_fits_7 (v1 : Int) (s : (Int × DT)) : Option (Int × DT) := loopF (fun s =>
  gd (InR s.1 ∧ InR 9999) (if s.1 ≤ 9999 then (
    (m_X11_laysDots s.1 s.2).bind (fun D16 =>
    (m_X11_allDots (-1) 0 D16).bind (fun r22 =>
    gd (InR r22 ∧ InR v1) (if r22 ≤ v1 then (
      done (
      some (s.1, D16)
      )
    ) else (
      some (.inl ((s.1 + 1), D16))
    ))
    ))
  ) else (
    done (
    some ((-1), s.2)
    )
  ))) s
noncomputable def m_X11_fits (v1 : Int) (D : DT) : Option (Int × DT) :=
  sq (sF D 73 0 0) (fun D2 =>
  m_X11_fits_7 v1 (1, D2)
  )
noncomputable def m_X11_scale_15 (v1 : Int) (D : DT) (s : Int) : Option (Int × DT) := loopF (fun s =>
  gd (InR s ∧ InR 5) (if s < 5 then (
    (m_X11_allDots (-1) s D).bind (fun r23 =>
    gd (InR r23 ∧ InR v1) (if r23 ≤ v1 then (
      done (
      some (s, D)
      )
    ) else (
      some (.inl (s + 1))
    ))
    )
  ) else (
    done (
    some ((-1), D)
    )
  ))) s
noncomputable def m_X11_scale (v1 : Int) (D : DT) : Option (Int × DT) :=
  sq (sF D 73 0 0) (fun D2 =>
  (m_X11_laysDots (D2.1 73 14) D2).bind (fun D10 =>
  m_X11_scale_15 v1 D10 0
  ))
noncomputable def m_X11_picks (v1 : Int) (D : DT) : Option DT :=
  gd ((0 : Int) ≤ (D.1 73 36) ∧ (D.1 73 36) < (384 : Int)) (sq (sA D 99 (Int.toNat (D.1 73 36)) v1) (fun D9 =>
  sq (sF D9 73 36 ((D9.1 73 36) + 1)) (fun D17 =>
  some D17
  )))
noncomputable def m_X11_pickedAt (v1 : Int) (D : DT) : Option Int :=
  gd (InR v1 ∧ InR (-1)) (if v1 = (-1) then (
    some (D.1 73 36)
  ) else (
    (m_X11_in v1 0 ((D.1 73 36) - 1) D).bind (fun r20 =>
    gd (InR r20) (if r20 = 0 then (
      some (-1)
    ) else (
      gd ((0 : Int) ≤ v1 ∧ v1 < (384 : Int)) (
      some (D.2 99 (Int.toNat v1))
      )
    ))
    )
  ))
noncomputable def m_X11_isAway_2 (v1 : Int) (v2 : Int) (D : DT) (s : Int) : Option Int := loopF (fun s =>
  gd (InR s ∧ InR (D.1 73 36)) (if s < (D.1 73 36) then (
    gd ((0 : Int) ≤ s ∧ s < (384 : Int)) (
    (m_X11_far (D.2 99 (Int.toNat s)) v1 D).bind (fun r18 =>
    gd (InR r18 ∧ InR v2) (if r18 < v2 then (
      done (
      some 0
      )
    ) else (
      some (.inl (s + 1))
    ))
    ))
  ) else (
    done (
    some 1
    )
  ))) s
noncomputable def m_X11_isAway (v1 : Int) (v2 : Int) (D : DT) : Option Int :=
  m_X11_isAway_2 v1 v2 D 0
noncomputable def m_X11_thinned_52 (v2 : Int) (v3 : Int) (s : (Int × DT)) : Option (Int × DT) := loopF (fun s =>
  (m_X11_cells s.2).bind (fun r55 =>
  gd (InR s.1 ∧ InR r55) (if s.1 < r55 then (
    (m_X11_hasDots s.1 s.2).bind (fun r64 =>
    gd (InR r64) (if r64 = 0 then (
      some (.inl ((s.1 + 1), s.2))
    ) else (
      (m_X11_isAway s.1 v2 s.2).bind (fun r74 =>
      gd (InR r74) (if r74 = 0 then (
        some (.inl ((s.1 + 1), s.2))
      ) else (
        (m_X11_picks s.1 s.2).bind (fun D83 =>
        some (.inl ((s.1 + 1), D83))
        )
      ))
      )
    ))
    )
  ) else (
    done (
    (m_X11_pickedAt v3 s.2).bind (fun r94 =>
    some (r94, s.2)
    )
    )
  ))
  )) s
noncomputable def m_X11_thinned (v1 : Int) (v2 : Int) (v3 : Int) (D : DT) : Option (Int × DT) :=
  sq (sF D 73 0 0) (fun D2 =>
  bnd (m_X11_noLevel v1 D2) (fun r7 D7 =>
  gd (InR r7) (if r7 = 0 then (
    (m_X11_in v2 0 999 D7).bind (fun r19 =>
    gd (InR r19) (if r19 = 0 then (
      bnd (m_X11_throwsIf 1 2 D7) (fun r31 D31 =>
      gd (InR r31) (if r31 = 0 then (
        (m_X11_laysCrowds v1 D31).bind (fun D41 =>
        sq (sF D41 73 36 0) (fun D46 =>
        m_X11_thinned_52 v2 v3 (0, D46)
        ))
      ) else (
        some (0, D31)
      ))
      )
    ) else (
      bnd (m_X11_throwsIf 0 2 D7) (fun r31 D31 =>
      gd (InR r31) (if r31 = 0 then (
        (m_X11_laysCrowds v1 D31).bind (fun D41 =>
        sq (sF D41 73 36 0) (fun D46 =>
        m_X11_thinned_52 v2 v3 (0, D46)
        ))
      ) else (
        some (0, D31)
      ))
      )
    ))
    )
  ) else (
    some (0, D7)
  ))
  ))
noncomputable def m_X11_tours_90 (v3 : Int) (D : DT) (s : (Int × Int)) : Option ((Int × DT) ⊕ DT) := loopF (fun s =>
  (m_X11_cells D).bind (fun r93 =>
  gd (InR s.2 ∧ InR r93) (if s.2 < r93 then (
    (m_X11_hasDots s.2 D).bind (fun r102 =>
    gd (InR r102) (if r102 = 0 then (
      some (.inl (s.1, (s.2 + 1)))
    ) else (
      gd ((0 : Int) ≤ s.2 ∧ s.2 < (384 : Int)) (
      gd (InR (D.2 100 (Int.toNat s.2))) (if (D.2 100 (Int.toNat s.2)) = 0 then (
        gd (InR s.1 ∧ InR (-1)) (if s.1 = (-1) then (
          some (.inl (s.2, (s.2 + 1)))
        ) else (
          (m_X11_far s.2 v3 D).bind (fun r127 =>
          (m_X11_far s.1 v3 D).bind (fun r133 =>
          gd (InR r127 ∧ InR r133) (if r127 < r133 then (
            some (.inl (s.2, (s.2 + 1)))
          ) else (
            some (.inl (s.1, (s.2 + 1)))
          ))
          ))
        ))
      ) else (
        some (.inl (s.1, (s.2 + 1)))
      ))
      )
    ))
    )
  ) else (
    done (
    gd (InR s.1 ∧ InR (-1)) (if s.1 = (-1) then (
      some (.inl (s.1, D))
    ) else (
      (m_X11_far s.1 v3 D).bind (fun r161 =>
      sq (sF D 73 38 ((D.1 73 38) + r161)) (fun D165 =>
      some (.inl (s.1, D165))
      ))
    ))
    )
  ))
  )) s
noncomputable def m_X11_tours_66 (s : (Int × DT)) : Option DT := loopF (fun s =>
  gd (InR s.1 ∧ InR (-1)) (if s.1 = (-1) then (
    done (
    some s.2
    )
  ) else (
    (m_X11_picks s.1 s.2).bind (fun D75 =>
    gd (((0 : Int) ≤ s.1 ∧ s.1 < (384 : Int)) ∧ ((1 : Int) = 0 ∨ (1 : Int) = 1)) (sq (sA D75 100 (Int.toNat s.1) 1) (fun D84 =>
    m_X11_tours_90 s.1 D84 ((-1), 0)
    )))
  ))) s
noncomputable def m_X11_tours_46 (D : DT) (s : (Int × Int)) : Option DT := loopF (fun s =>
  gd (InR s.2) (if 0 ≤ s.2 then (
    (m_X11_hasDots s.2 D).bind (fun r52 =>
    gd (InR r52) (if r52 = 0 then (
      some (.inl (s.1, (s.2 + (-1))))
    ) else (
      some (.inl (s.2, (s.2 + (-1))))
    ))
    )
  ) else (
    done (
    m_X11_tours_66 (s.1, D)
    )
  ))) s
noncomputable def m_X11_tours_17 (s : (Int × DT)) : Option DT := loopF (fun s =>
  gd (InR s.1 ∧ InR 384) (if s.1 < 384 then (
    gd (((0 : Int) ≤ s.1 ∧ s.1 < (384 : Int)) ∧ ((0 : Int) = 0 ∨ (0 : Int) = 1)) (sq (sA s.2 100 (Int.toNat s.1) 0) (fun D30 =>
    some (.inl ((s.1 + 1), D30))
    ))
  ) else (
    done (
    (m_X11_cells s.2).bind (fun r40 =>
    m_X11_tours_46 s.2 ((-1), (r40 - 1))
    )
    )
  ))) s
noncomputable def m_X11_tours (v1 : Int) (D : DT) : Option DT :=
  (m_X11_laysCrowds v1 D).bind (fun D2 =>
  sq (sF D2 73 36 0) (fun D7 =>
  sq (sF D7 73 38 0) (fun D12 =>
  m_X11_tours_17 (0, D12)
  )))
noncomputable def m_X11_tour (v1 : Int) (v2 : Int) (D : DT) : Option (Int × DT) :=
  sq (sF D 73 0 0) (fun D2 =>
  bnd (m_X11_noLevel v1 D2) (fun r7 D7 =>
  gd (InR r7) (if r7 = 0 then (
    (m_X11_tours v1 D7).bind (fun D17 =>
    (m_X11_pickedAt v2 D17).bind (fun r22 =>
    some (r22, D17)
    ))
  ) else (
    some (0, D7)
  ))
  ))
noncomputable def m_X11_way (v1 : Int) (D : DT) : Option (Int × DT) :=
  sq (sF D 73 0 0) (fun D2 =>
  bnd (m_X11_noLevel v1 D2) (fun r7 D7 =>
  gd (InR r7) (if r7 = 0 then (
    (m_X11_tours v1 D7).bind (fun D17 =>
    some ((D17.1 73 38), D17)
    )
  ) else (
    some (0, D7)
  ))
  ))
noncomputable def m_X11_hand (v1 : Int) (v2 : Int) (v3 : Int) (D : DT) : Option Int :=
  gd ((0 : Int) ≤ 0 ∧ 0 < (4 : Int)) (
  gd ((0 : Int) ≤ v2 ∧ v2 ≤ (2147483647 : Int) ∧ (0 : Int) < (D.2 76 (Int.toNat 0)) ∧ (D.2 76 (Int.toNat 0)) ≤ (2147483647 : Int)) (
  gd ((0 : Int) ≤ v1 ∧ v1 ≤ (2147483647 : Int) ∧ (0 : Int) < (D.2 76 (Int.toNat 0)) ∧ (D.2 76 (Int.toNat 0)) ≤ (2147483647 : Int)) (
  gd ((0 : Int) ≤ v3 ∧ v3 ≤ (2147483647 : Int) ∧ (0 : Int) < (D.2 76 (Int.toNat 0)) ∧ (D.2 76 (Int.toNat 0)) ≤ (2147483647 : Int)) (
  gd ((0 : Int) ≤ v1 ∧ v1 ≤ (2147483647 : Int) ∧ (0 : Int) < (D.2 76 (Int.toNat 0)) ∧ (D.2 76 (Int.toNat 0)) ≤ (2147483647 : Int)) (
  gd ((0 : Int) ≤ v2 ∧ v2 ≤ (2147483647 : Int) ∧ (0 : Int) < (D.2 76 (Int.toNat 0)) ∧ (D.2 76 (Int.toNat 0)) ≤ (2147483647 : Int)) (
  gd ((0 : Int) ≤ v1 ∧ v1 ≤ (2147483647 : Int) ∧ (0 : Int) < (D.2 76 (Int.toNat 0)) ∧ (D.2 76 (Int.toNat 0)) ≤ (2147483647 : Int)) (
  gd ((0 : Int) ≤ v3 ∧ v3 ≤ (2147483647 : Int) ∧ (0 : Int) < (D.2 76 (Int.toNat 0)) ∧ (D.2 76 (Int.toNat 0)) ≤ (2147483647 : Int)) (
  gd ((0 : Int) ≤ v1 ∧ v1 ≤ (2147483647 : Int) ∧ (0 : Int) < (D.2 76 (Int.toNat 0)) ∧ (D.2 76 (Int.toNat 0)) ≤ (2147483647 : Int)) (
  some ((((v2 % (D.2 76 (Int.toNat 0))) - (v1 % (D.2 76 (Int.toNat 0)))) * ((v3 / (D.2 76 (Int.toNat 0))) - (v1 / (D.2 76 (Int.toNat 0))))) - (((v2 / (D.2 76 (Int.toNat 0))) - (v1 / (D.2 76 (Int.toNat 0)))) * ((v3 % (D.2 76 (Int.toNat 0))) - (v1 % (D.2 76 (Int.toNat 0))))))
  )))))))))
noncomputable def m_X11_hulls_103 (v2 : Int) (v3 : Int) (v4 : Int) (v5 : Int) (x0 : Int) (D : DT) : Option ((Int × Int) ⊕ ((Int × DT) ⊕ DT)) :=
  gd (InR x0) (if 0 ≤ x0 then (
    gd (InR x0) (if x0 = 0 then (
      (m_X11_far v5 v3 D).bind (fun r119 =>
      (m_X11_far v4 v3 D).bind (fun r126 =>
      gd (InR r119 ∧ InR r126) (if r126 < r119 then (
        some (.inl (v5, (v5 + 1)))
      ) else (
        some (.inl (v4, (v5 + 1)))
      ))
      ))
    ) else (
      some (.inl (v4, (v5 + 1)))
    ))
  ) else (
    some (.inl (v5, (v5 + 1)))
  ))
noncomputable def m_X11_hulls_57 (v2 : Int) (v3 : Int) (D : DT) (s : (Int × Int)) : Option ((Int × DT) ⊕ DT) := loopF (fun s =>
  (m_X11_cells D).bind (fun r60 =>
  gd (InR s.2 ∧ InR r60) (if s.2 < r60 then (
    (m_X11_hasDots s.2 D).bind (fun r69 =>
    gd (InR r69) (if r69 = 0 then (
      some (.inl (s.1, (s.2 + 1)))
    ) else (
      gd (InR s.2 ∧ InR v3) (if s.2 = v3 then (
        some (.inl (s.1, (s.2 + 1)))
      ) else (
        gd (InR s.1 ∧ InR (-1)) (if s.1 = (-1) then (
          m_X11_hulls_103 v2 v3 s.1 s.2 (-1) D
        ) else (
          (m_X11_hand v3 s.1 s.2 D).bind (fun r100 =>
          m_X11_hulls_103 v2 v3 s.1 s.2 r100 D
          )
        ))
      ))
    ))
    )
  ) else (
    done (
    gd (InR s.1 ∧ InR v2) (if s.1 = v2 then (
      some (.inl ((-1), D))
    ) else (
      some (.inl (s.1, D))
    ))
    )
  ))
  )) s
noncomputable def m_X11_hulls_41 (v2 : Int) (s : (Int × DT)) : Option DT := loopF (fun s =>
  gd (InR s.1 ∧ InR (-1)) (if s.1 = (-1) then (
    done (
    some s.2
    )
  ) else (
    (m_X11_picks s.1 s.2).bind (fun D48 =>
    m_X11_hulls_57 v2 s.1 D48 ((-1), 0)
    )
  ))) s
noncomputable def m_X11_hulls_19 (D : DT) (s : (Int × Int)) : Option DT := loopF (fun s =>
  gd (InR s.2) (if 0 ≤ s.2 then (
    (m_X11_hasDots s.2 D).bind (fun r25 =>
    gd (InR r25) (if r25 = 0 then (
      some (.inl (s.1, (s.2 + (-1))))
    ) else (
      some (.inl (s.2, (s.2 + (-1))))
    ))
    )
  ) else (
    done (
    m_X11_hulls_41 s.1 (s.1, D)
    )
  ))) s
noncomputable def m_X11_hulls (v1 : Int) (D : DT) : Option DT :=
  (m_X11_laysCrowds v1 D).bind (fun D2 =>
  sq (sF D2 73 36 0) (fun D7 =>
  (m_X11_cells D7).bind (fun r13 =>
  m_X11_hulls_19 D7 ((-1), (r13 - 1))
  )))
noncomputable def m_X11_hull (v1 : Int) (v2 : Int) (D : DT) : Option (Int × DT) :=
  sq (sF D 73 0 0) (fun D2 =>
  bnd (m_X11_noLevel v1 D2) (fun r7 D7 =>
  gd (InR r7) (if r7 = 0 then (
    (m_X11_hulls v1 D7).bind (fun D17 =>
    (m_X11_pickedAt v2 D17).bind (fun r22 =>
    some (r22, D17)
    ))
  ) else (
    some (0, D7)
  ))
  ))
noncomputable def m_X11_area_24 (D : DT) (s : (Int × Int)) : Option (Int × DT) := loopF (fun s =>
  gd (InR s.2 ∧ InR (D.1 73 36)) (if s.2 < (D.1 73 36) then (
    gd ((0 : Int) ≤ 0 ∧ 0 < (384 : Int)) (
    gd ((0 : Int) ≤ (s.2 - 1) ∧ (s.2 - 1) < (384 : Int)) (
    gd ((0 : Int) ≤ s.2 ∧ s.2 < (384 : Int)) (
    (m_X11_hand (D.2 99 (Int.toNat 0)) (D.2 99 (Int.toNat (s.2 - 1))) (D.2 99 (Int.toNat s.2)) D).bind (fun r54 =>
    some (.inl ((s.1 + r54), (s.2 + 1)))
    ))))
  ) else (
    done (
    some (s.1, D)
    )
  ))) s
noncomputable def m_X11_area (v1 : Int) (D : DT) : Option (Int × DT) :=
  sq (sF D 73 0 0) (fun D2 =>
  bnd (m_X11_noLevel v1 D2) (fun r7 D7 =>
  gd (InR r7) (if r7 = 0 then (
    (m_X11_hulls v1 D7).bind (fun D17 =>
    m_X11_area_24 D17 (0, 2)
    )
  ) else (
    some (0, D7)
  ))
  ))
noncomputable def m_X11_middle_67 (v1 : Int) (v3 : Int) (v4 : Int) (v6 : Int) (D : DT) (s : (Int × Int)) : Option ((Int × Int × Int) ⊕ (Int × DT)) := loopF (fun s =>
  (m_X11_cells D).bind (fun r70 =>
  gd (InR s.2 ∧ InR r70) (if s.2 < r70 then (
    (m_X11_crowdOf s.2 v1 D).bind (fun r82 =>
    gd (InR r82) (
    (m_X11_far v6 s.2 D).bind (fun r91 =>
    gd (InR r91) (
    some (.inl ((s.1 + (r82 * r91)), (s.2 + 1)))
    ))))
  ) else (
    done (
    gd (InR v3 ∧ InR (-1)) (if v3 = (-1) then (
      some (.inl (v6, s.1, (v6 + 1)))
    ) else (
      gd (InL s.1 ∧ InL v4) (if v4 ≤ s.1 then (
        some (.inl (v3, v4, (v6 + 1)))
      ) else (
        some (.inl (v6, s.1, (v6 + 1)))
      ))
    ))
    )
  ))
  )) s
noncomputable def m_X11_middle_52 (v1 : Int) (D : DT) (s : (Int × Int × Int)) : Option (Int × DT) := loopF (fun s =>
  (m_X11_cells D).bind (fun r55 =>
  gd (InR s.2.2 ∧ InR r55) (if s.2.2 < r55 then (
    m_X11_middle_67 v1 s.1 s.2.1 s.2.2 D (0, 0)
  ) else (
    done (
    some (s.1, D)
    )
  ))
  )) s
noncomputable def m_X11_middle_18 (v1 : Int) (v2 : Int) (D : DT) : Option (Int × DT) :=
  bnd (m_X11_noLevel v2 D) (fun r20 D20 =>
  gd (InR r20) (if r20 = 0 then (
    (m_X11_laysCrowds v2 D20).bind (fun D30 =>
    (m_X11_allDots v1 v2 D30).bind (fun r36 =>
    gd (InR r36) (if r36 = 0 then (
      some ((-1), D30)
    ) else (
      m_X11_middle_52 v1 D30 ((-1), 0, 0)
    ))
    ))
  ) else (
    some (0, D20)
  ))
  )
noncomputable def m_X11_middle (v1 : Int) (v2 : Int) (D : DT) : Option (Int × DT) :=
  sq (sF D 73 0 0) (fun D2 =>
  gd (InR v1 ∧ InR (-1)) (if v1 = (-1) then (
    m_X11_middle_18 v1 v2 D2
  ) else (
    bnd (m_X11_noGroup v1 D2) (fun r12 D12 =>
    gd (InR r12) (if r12 = 0 then (
      m_X11_middle_18 v1 v2 D12
    ) else (
      some (0, D12)
    ))
    )
  ))
  )
noncomputable def m_X11_line__104 (v1 : Int) (v2 : Int) (v5 : Int) (x0 : Int) (x1 : Int) (D : DT) : Option ((Int × Int) ⊕ (Int × DT)) :=
  gd (InR x0 ∧ InR v2) (if x0 = v2 then (
    (m_X11_crowdOf v5 (-1) D).bind (fun r112 =>
    some (.inl ((x1 + r112), (v5 + 1)))
    )
  ) else (
    some (.inl ((x1 + 0), (v5 + 1)))
  ))
noncomputable def m_X11_line__68 (v1 : Int) (v2 : Int) (D : DT) (s : (Int × Int)) : Option (Int × DT) := loopF (fun s =>
  (m_X11_cells D).bind (fun r71 =>
  gd (InR s.2 ∧ InR r71) (if s.2 < r71 then (
    gd (InR v1) (if v1 = 0 then (
      gd ((0 : Int) ≤ 0 ∧ 0 < (4 : Int)) (
      gd ((0 : Int) ≤ s.2 ∧ s.2 ≤ (2147483647 : Int) ∧ (0 : Int) < (D.2 76 (Int.toNat 0)) ∧ (D.2 76 (Int.toNat 0)) ≤ (2147483647 : Int)) (
      m_X11_line__104 v1 v2 s.2 (s.2 / (D.2 76 (Int.toNat 0))) s.1 D
      ))
    ) else (
      gd ((0 : Int) ≤ 0 ∧ 0 < (4 : Int)) (
      gd ((0 : Int) ≤ s.2 ∧ s.2 ≤ (2147483647 : Int) ∧ (0 : Int) < (D.2 76 (Int.toNat 0)) ∧ (D.2 76 (Int.toNat 0)) ≤ (2147483647 : Int)) (
      m_X11_line__104 v1 v2 s.2 (s.2 % (D.2 76 (Int.toNat 0))) s.1 D
      ))
    ))
  ) else (
    done (
    some (s.1, D)
    )
  ))
  )) s
noncomputable def m_X11_line__40 (v1 : Int) (v2 : Int) (v3 : Int) (x0 : Int) (D : DT) : Option (Int × DT) :=
  bnd (m_X11_throwsIf x0 1 D) (fun r41 D41 =>
  gd (InR r41) (if r41 = 0 then (
    bnd (m_X11_noLevel v3 D41) (fun r49 D49 =>
    gd (InR r49) (if r49 = 0 then (
      (m_X11_laysCrowds v3 D49).bind (fun D59 =>
      m_X11_line__68 v1 v2 D59 (0, 0)
      )
    ) else (
      some (0, D49)
    ))
    )
  ) else (
    some (0, D41)
  ))
  )
noncomputable def m_X11_line_ (v1 : Int) (v2 : Int) (v3 : Int) (D : DT) : Option (Int × DT) :=
  sq (sF D 73 0 0) (fun D2 =>
  gd (InR v1) (if v1 = 0 then (
    gd ((0 : Int) ≤ 1 ∧ 1 < (4 : Int)) (
    (m_X11_in v2 0 ((D2.2 76 (Int.toNat 1)) - 1) D2).bind (fun r29 =>
    gd (InR r29) (if r29 = 0 then (
      m_X11_line__40 v1 v2 v3 1 D2
    ) else (
      m_X11_line__40 v1 v2 v3 0 D2
    ))
    ))
  ) else (
    gd ((0 : Int) ≤ 0 ∧ 0 < (4 : Int)) (
    (m_X11_in v2 0 ((D2.2 76 (Int.toNat 0)) - 1) D2).bind (fun r29 =>
    gd (InR r29) (if r29 = 0 then (
      m_X11_line__40 v1 v2 v3 1 D2
    ) else (
      m_X11_line__40 v1 v2 v3 0 D2
    ))
    )
    )
  ))
  )
noncomputable def m_X11_joined_190 (v1 : Int) (v3 : Int) (D : DT) (s : (Int × Int)) : Option (Int × DT) := loopF (fun s =>
  gd ((0 : Int) ≤ 3 ∧ 3 < (4 : Int)) (
  gd (InR s.2 ∧ InR (D.2 76 (Int.toNat 3))) (if s.2 < (D.2 76 (Int.toNat 3)) then (
    (m_X11_dotsAt v3 v1 s.2 D).bind (fun r211 =>
    gd ((0 : Int) ≤ r211 ∧ r211 < (120 : Int)) (
    some (.inl ((s.1 + (D.2 90 (Int.toNat r211))), (s.2 + 1)))
    ))
  ) else (
    done (
    (m_X11_bringsBack D).bind (fun D225 =>
    some (s.1, D225)
    )
    )
  ))
  )) s
noncomputable def m_X11_joined_93 (v1 : Int) (v2 : Int) (v3 : Int) (s : (Int × DT)) : Option (Int × DT) := loopF (fun s =>
  gd ((0 : Int) ≤ 3 ∧ 3 < (4 : Int)) (
  gd (InR s.1 ∧ InR (s.2.2 76 (Int.toNat 3))) (if s.1 < (s.2.2 76 (Int.toNat 3)) then (
    gd ((0 : Int) ≤ ((3 * v1) + s.1) ∧ ((3 * v1) + s.1) < (24 : Int)) (
    gd ((0 : Int) ≤ ((3 * v2) + s.1) ∧ ((3 * v2) + s.1) < (24 : Int)) (
    gd (InR ((s.2.2 82 (Int.toNat ((3 * v1) + s.1))) + (s.2.2 82 (Int.toNat ((3 * v2) + s.1)))) ∧ InR 99999) (if 99999 < ((s.2.2 82 (Int.toNat ((3 * v1) + s.1))) + (s.2.2 82 (Int.toNat ((3 * v2) + s.1)))) then (
      gd ((0 : Int) ≤ ((3 * v1) + s.1) ∧ ((3 * v1) + s.1) < (24 : Int)) (sq (sA s.2 82 (Int.toNat ((3 * v1) + s.1)) 99999) (fun D153 =>
      gd ((0 : Int) ≤ ((3 * v2) + s.1) ∧ ((3 * v2) + s.1) < (24 : Int)) (sq (sA D153 82 (Int.toNat ((3 * v2) + s.1)) 0) (fun D165 =>
      some (.inl ((s.1 + 1), D165))
      ))))
    ) else (
      gd ((0 : Int) ≤ ((3 * v1) + s.1) ∧ ((3 * v1) + s.1) < (24 : Int)) (sq (sA s.2 82 (Int.toNat ((3 * v1) + s.1)) ((s.2.2 82 (Int.toNat ((3 * v1) + s.1))) + (s.2.2 82 (Int.toNat ((3 * v2) + s.1))))) (fun D153 =>
      gd ((0 : Int) ≤ ((3 * v2) + s.1) ∧ ((3 * v2) + s.1) < (24 : Int)) (sq (sA D153 82 (Int.toNat ((3 * v2) + s.1)) 0) (fun D165 =>
      some (.inl ((s.1 + 1), D165))
      ))))
    ))
    ))
  ) else (
    done (
    (m_X11_laysOrders s.2).bind (fun D173 =>
    (m_X11_laysDots (D173.1 73 14) D173).bind (fun D181 =>
    m_X11_joined_190 v1 v3 D181 (0, 0)
    ))
    )
  ))
  )) s
noncomputable def m_X11_joined_56 (v1 : Int) (v2 : Int) (v3 : Int) (s : (Int × DT)) : Option (Int × DT) := loopF (fun s =>
  (m_X11_cells s.2).bind (fun r59 =>
  gd (InR s.1 ∧ InR r59) (if s.1 < r59 then (
    gd ((0 : Int) ≤ s.1 ∧ s.1 < (384 : Int)) (
    gd (InR (s.2.2 78 (Int.toNat s.1)) ∧ InR v2) (if (s.2.2 78 (Int.toNat s.1)) = v2 then (
      gd ((0 : Int) ≤ s.1 ∧ s.1 < (384 : Int)) (sq (sA s.2 78 (Int.toNat s.1) v1) (fun D83 =>
      some (.inl ((s.1 + 1), D83))
      ))
    ) else (
      some (.inl ((s.1 + 1), s.2))
    ))
    )
  ) else (
    done (
    m_X11_joined_93 v1 v2 v3 (0, s.2)
    )
  ))
  )) s
noncomputable def m_X11_joined (v1 : Int) (v2 : Int) (v3 : Int) (D : DT) : Option (Int × DT) :=
  sq (sF D 73 0 0) (fun D2 =>
  bnd (m_X11_noZone v1 D2) (fun r7 D7 =>
  gd (InR r7) (if r7 = 0 then (
    bnd (m_X11_noZone v2 D7) (fun r15 D15 =>
    gd (InR r15) (if r15 = 0 then (
      bnd (m_X11_noLevel v3 D15) (fun r23 D23 =>
      gd (InR r23) (if r23 = 0 then (
        gd (InR v1 ∧ InR v2) (if v1 = v2 then (
          bnd (m_X11_throwsIf 1 2 D23) (fun r41 D41 =>
          gd (InR r41) (if r41 = 0 then (
            (m_X11_keepsAll D41).bind (fun D50 =>
            m_X11_joined_56 v1 v2 v3 (0, D50)
            )
          ) else (
            some (0, D41)
          ))
          )
        ) else (
          bnd (m_X11_throwsIf 0 2 D23) (fun r41 D41 =>
          gd (InR r41) (if r41 = 0 then (
            (m_X11_keepsAll D41).bind (fun D50 =>
            m_X11_joined_56 v1 v2 v3 (0, D50)
            )
          ) else (
            some (0, D41)
          ))
          )
        ))
      ) else (
        some (0, D23)
      ))
      )
    ) else (
      some (0, D15)
    ))
    )
  ) else (
    some (0, D7)
  ))
  ))
noncomputable def m_X11_says (v1 : Int) (D : DT) : Option DT :=
  gd (((0 : Int) ≤ (D.1 73 40) ∧ (D.1 73 40) < (20000 : Int)) ∧ ((-128 : Int) ≤ (i2b v1) ∧ (i2b v1) ≤ (127 : Int))) (sq (sA D 101 (Int.toNat (D.1 73 40)) (i2b v1)) (fun D10 =>
  sq (sF D10 73 40 ((D10.1 73 40) + 1)) (fun D18 =>
  some D18
  )))
noncomputable def m_X11_saysWord_2 (t1 : Nat) (s : (Int × DT)) : Option DT := loopF (fun s =>
  gd (InR s.1 ∧ InR (strL t1)) (if s.1 < (strL t1) then (
    gd (0 ≤ s.1 ∧ s.1 < strL t1) (
    (m_X11_says (strC t1 (Int.toNat s.1)) s.2).bind (fun D16 =>
    some (.inl ((s.1 + 1), D16))
    ))
  ) else (
    done (
    some s.2
    )
  ))) s
noncomputable def m_X11_saysWord (t1 : Nat) (D : DT) : Option DT :=
  m_X11_saysWord_2 t1 (0, D)
noncomputable def m_X11_saysNumber0 (v1 : Int) (D : DT) : Option DT :=
  gd (InR v1 ∧ InR 9) (if 9 < v1 then (
    gd ((0 : Int) ≤ v1 ∧ v1 ≤ (2147483647 : Int) ∧ (0 : Int) < 10 ∧ 10 ≤ (2147483647 : Int)) (
    none
    )
  ) else (
    gd ((0 : Int) ≤ v1 ∧ v1 ≤ (2147483647 : Int) ∧ (0 : Int) < 10 ∧ 10 ≤ (2147483647 : Int)) (
    (m_X11_says (48 + (v1 % 10)) D).bind (fun D22 =>
    some D22
    ))
  ))
noncomputable def m_X11_saysNumber (v1 : Int) (D : DT) : Option DT :=
  gd (InR v1 ∧ InR 9) (if 9 < v1 then (
    gd ((0 : Int) ≤ v1 ∧ v1 ≤ (2147483647 : Int) ∧ (0 : Int) < 10 ∧ 10 ≤ (2147483647 : Int)) (
    (m_X11_saysNumber0 (v1 / 10) D).bind (fun D11 =>
    gd ((0 : Int) ≤ v1 ∧ v1 ≤ (2147483647 : Int) ∧ (0 : Int) < 10 ∧ 10 ≤ (2147483647 : Int)) (
    (m_X11_says (48 + (v1 % 10)) D11).bind (fun D22 =>
    some D22
    ))))
  ) else (
    gd ((0 : Int) ≤ v1 ∧ v1 ≤ (2147483647 : Int) ∧ (0 : Int) < 10 ∧ 10 ≤ (2147483647 : Int)) (
    (m_X11_says (48 + (v1 % 10)) D).bind (fun D22 =>
    some D22
    ))
  ))
noncomputable def m_X11_write_165 (v1 : Int) (v2 : Int) (v4 : Int) (v5 : Int) (D : DT) : Option ((Int × Int × DT) ⊕ ((Int × DT) ⊕ (Int × DT))) :=
  (m_X11_saysNumber v4 D).bind (fun D170 =>
  (m_X11_says 45 D170).bind (fun D176 =>
  (m_X11_runEnd v1 v5 D176).bind (fun r184 =>
  gd ((0 : Int) ≤ 0 ∧ 0 < (4 : Int)) (
  gd ((0 : Int) ≤ r184 ∧ r184 ≤ (2147483647 : Int) ∧ (0 : Int) < (D176.2 76 (Int.toNat 0)) ∧ (D176.2 76 (Int.toNat 0)) ≤ (2147483647 : Int)) (
  (m_X11_saysNumber (r184 % (D176.2 76 (Int.toNat 0))) D176).bind (fun D194 =>
  some (.inl (1, (v4 + 1), D194))
  ))))))
noncomputable def m_X11_write_117 (v1 : Int) (v2 : Int) (s : (Int × Int × DT)) : Option ((Int × DT) ⊕ (Int × DT)) := loopF (fun s =>
  gd ((0 : Int) ≤ 0 ∧ 0 < (4 : Int)) (
  gd (InR s.2.1 ∧ InR (s.2.2.2 76 (Int.toNat 0))) (if s.2.1 < (s.2.2.2 76 (Int.toNat 0)) then (
    gd ((0 : Int) ≤ 0 ∧ 0 < (4 : Int)) (
    (m_X11_isRunBegin v1 (((s.2.2.2 76 (Int.toNat 0)) * v2) + s.2.1) s.2.2).bind (fun r145 =>
    gd (InR r145) (if r145 = 0 then (
      some (.inl (s.1, (s.2.1 + 1), s.2.2))
    ) else (
      gd (InR s.1) (if s.1 = 0 then (
        m_X11_write_165 v1 v2 s.2.1 (((s.2.2.2 76 (Int.toNat 0)) * v2) + s.2.1) s.2.2
      ) else (
        (m_X11_saysWord 21 s.2.2).bind (fun D162 =>
        m_X11_write_165 v1 v2 s.2.1 (((s.2.2.2 76 (Int.toNat 0)) * v2) + s.2.1) D162
        )
      ))
    ))
    ))
  ) else (
    done (
    (m_X11_says 59 s.2.2).bind (fun D206 =>
    some (.inl ((v2 + 1), D206))
    )
    )
  ))
  )) s
noncomputable def m_X11_write_53 (v1 : Int) (v2 : Int) (s : (Int × DT)) : Option ((Int × DT) ⊕ (Int × DT)) := loopF (fun s =>
  gd (InR s.1 ∧ InR 6) (if s.1 < 6 then (
    gd ((0 : Int) ≤ ((6 * v1) + s.1) ∧ ((6 * v1) + s.1) < (48 : Int)) (
    gd (InR (s.2.2 84 (Int.toNat ((6 * v1) + s.1)))) (if (s.2.2 84 (Int.toNat ((6 * v1) + s.1))) = 0 then (
      done (
      (m_X11_says 32 s.2).bind (fun D97 =>
      (m_X11_saysNumber v2 D97).bind (fun D102 =>
      (m_X11_saysWord 20 D102).bind (fun D109 =>
      m_X11_write_117 v1 v2 (0, 0, D109)
      )))
      )
    ) else (
      gd ((0 : Int) ≤ ((6 * v1) + s.1) ∧ ((6 * v1) + s.1) < (48 : Int)) (
      (m_X11_says (s.2.2 84 (Int.toNat ((6 * v1) + s.1))) s.2).bind (fun D85 =>
      some (.inl ((s.1 + 1), D85))
      ))
    ))
    )
  ) else (
    done (
    (m_X11_says 32 s.2).bind (fun D97 =>
    (m_X11_saysNumber v2 D97).bind (fun D102 =>
    (m_X11_saysWord 20 D102).bind (fun D109 =>
    m_X11_write_117 v1 v2 (0, 0, D109)
    )))
    )
  ))) s
noncomputable def m_X11_write_22 (v1 : Int) (s : (Int × DT)) : Option (Int × DT) := loopF (fun s =>
  gd ((0 : Int) ≤ 1 ∧ 1 < (4 : Int)) (
  gd (InR s.1 ∧ InR (s.2.2 76 (Int.toNat 1))) (if s.1 < (s.2.2 76 (Int.toNat 1)) then (
    (m_X11_runsIn v1 s.1 s.2).bind (fun r35 =>
    gd (InR r35) (if r35 = 0 then (
      some (.inl ((s.1 + 1), s.2))
    ) else (
      (m_X11_saysWord 19 s.2).bind (fun D48 =>
      m_X11_write_53 v1 s.1 (0, D48)
      )
    ))
    )
  ) else (
    done (
    some ((s.2.1 73 40), s.2)
    )
  ))
  )) s
noncomputable def m_X11_write (v1 : Int) (D : DT) : Option (Int × DT) :=
  sq (sF D 73 0 0) (fun D2 =>
  bnd (m_X11_noZone v1 D2) (fun r7 D7 =>
  gd (InR r7) (if r7 = 0 then (
    sq (sF D7 73 40 0) (fun D17 =>
    m_X11_write_22 v1 (0, D17)
    )
  ) else (
    some (0, D7)
  ))
  ))
noncomputable def m_X11_octet (v1 : Int) (D : DT) : Option (Int × DT) :=
  sq (sF D 73 0 0) (fun D2 =>
  (m_X11_in v1 0 ((D2.1 73 40) - 1) D2).bind (fun r13 =>
  gd (InR r13) (if r13 = 0 then (
    some ((-1), D2)
  ) else (
    gd ((0 : Int) ≤ v1 ∧ v1 < (20000 : Int)) (
    some ((D2.2 101 (Int.toNat v1)), D2)
    )
  ))
  ))
noncomputable def m_X11_cellsOf_80 (v1 : Int) (v3 : Int) (x0 : Int) (x1 : Int) (D : DT) : Option ((Int × Int) ⊕ Int) :=
  some (.inl ((x1 + x0), (v3 + 1)))
noncomputable def m_X11_cellsOf_4 (v1 : Int) (D : DT) (s : (Int × Int)) : Option Int := loopF (fun s =>
  (m_X11_cells D).bind (fun r6 =>
  gd (InR s.2 ∧ InR r6) (if s.2 < r6 then (
    gd (InR v1 ∧ InR 4) (if v1 = 4 then (
      gd ((0 : Int) ≤ s.2 ∧ s.2 < (384 : Int)) (
      gd (InR (D.2 80 (Int.toNat s.2))) (if (D.2 80 (Int.toNat s.2)) = 0 then (
        m_X11_cellsOf_80 v1 s.2 0 s.1 D
      ) else (
        m_X11_cellsOf_80 v1 s.2 1 s.1 D
      ))
      )
    ) else (
      gd (InR v1 ∧ InR 5) (if v1 = 5 then (
        (m_X11_isLand s.2 D).bind (fun r42 =>
        gd (InR r42) (if r42 = 0 then (
          m_X11_cellsOf_80 v1 s.2 0 s.1 D
        ) else (
          m_X11_cellsOf_80 v1 s.2 1 s.1 D
        ))
        )
      ) else (
        gd ((0 : Int) ≤ s.2 ∧ s.2 < (384 : Int)) (
        gd (InR (D.2 78 (Int.toNat s.2)) ∧ InR (-1)) (if (D.2 78 (Int.toNat s.2)) = (-1) then (
          gd ((0 : Int) ≤ s.2 ∧ s.2 < (384 : Int)) (
          gd (InR (D.2 80 (Int.toNat s.2))) (if (D.2 80 (Int.toNat s.2)) = 0 then (
            m_X11_cellsOf_80 v1 s.2 1 s.1 D
          ) else (
            m_X11_cellsOf_80 v1 s.2 0 s.1 D
          ))
          )
        ) else (
          m_X11_cellsOf_80 v1 s.2 0 s.1 D
        ))
        )
      ))
    ))
  ) else (
    done (
    some s.1
    )
  ))
  )) s
noncomputable def m_X11_cellsOf (v1 : Int) (D : DT) : Option Int :=
  m_X11_cellsOf_4 v1 D (0, 0)
noncomputable def m_X11_count_121 (v3 : Int) (D : DT) (s : (Int × Int)) : Option ((Int × Int) ⊕ (Int × DT)) := loopF (fun s =>
  gd ((0 : Int) ≤ 3 ∧ 3 < (4 : Int)) (
  gd (InR s.2 ∧ InR (D.2 76 (Int.toNat 3))) (if s.2 < (D.2 76 (Int.toNat 3)) then (
    gd ((0 : Int) ≤ ((3 * v3) + s.2) ∧ ((3 * v3) + s.2) < (24 : Int)) (
    some (.inl ((s.1 + (D.2 82 (Int.toNat ((3 * v3) + s.2)))), (s.2 + 1)))
    )
  ) else (
    done (
    some (.inl (s.1, (v3 + 1)))
    )
  ))
  )) s
noncomputable def m_X11_count_110 (D : DT) (s : (Int × Int)) : Option (Int × DT) := loopF (fun s =>
  (m_X11_zones D).bind (fun r112 =>
  gd (InR s.2 ∧ InR r112) (if s.2 < r112 then (
    m_X11_count_121 s.2 D (s.1, 0)
  ) else (
    done (
    some (s.1, D)
    )
  ))
  )) s
noncomputable def m_X11_count (v1 : Int) (D : DT) : Option (Int × DT) :=
  sq (sF D 73 0 0) (fun D2 =>
  gd (InR v1) (
  if v1 = 0 then (
    gd ((0 : Int) ≤ v1 ∧ v1 < (4 : Int)) (
    some ((D2.2 76 (Int.toNat v1)), D2)
    )
  ) else 
  if v1 = 1 then (
    gd ((0 : Int) ≤ v1 ∧ v1 < (4 : Int)) (
    some ((D2.2 76 (Int.toNat v1)), D2)
    )
  ) else 
  if v1 = 2 then (
    gd ((0 : Int) ≤ 2 ∧ 2 < (4 : Int)) (
    some ((D2.2 76 (Int.toNat 2)), D2)
    )
  ) else 
  if v1 = 3 then (
    gd ((0 : Int) ≤ 3 ∧ 3 < (4 : Int)) (
    some ((D2.2 76 (Int.toNat 3)), D2)
    )
  ) else 
  if v1 = 4 then (
    (m_X11_cellsOf v1 D2).bind (fun r87 =>
    some (r87, D2)
    )
  ) else 
  if v1 = 5 then (
    (m_X11_cellsOf v1 D2).bind (fun r87 =>
    some (r87, D2)
    )
  ) else 
  if v1 = 6 then (
    (m_X11_cellsOf v1 D2).bind (fun r87 =>
    some (r87, D2)
    )
  ) else 
  if v1 = 7 then (
    some ((D2.1 73 14), D2)
  ) else 
  if v1 = 8 then (
    some ((D2.1 73 15), D2)
  ) else 
  if v1 = 9 then (
    some ((D2.1 73 40), D2)
  ) else 
  if v1 = 10 then (
    m_X11_count_110 D2 (0, 0)
  ) else 
  (
    some ((-1), D2)
  ))
  )
