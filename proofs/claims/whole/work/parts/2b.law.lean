noncomputable def m_L_c0 (xs : Nat → Int) (Ls : Nat) (s : Int × DT) : Option ((Int × DT) ⊕ Int) :=
  gd ((0 : Int) ≤ (s.1 + 1) ∧ (s.1 + 1) < (Ls : Int)) (
  gd ((0 : Int) ≤ (s.1 + 2) ∧ (s.1 + 2) < (Ls : Int)) (
  gd ((0 : Int) ≤ (s.1 + 3) ∧ (s.1 + 3) < (Ls : Int)) (
  gd ((0 : Int) ≤ (s.1 + 4) ∧ (s.1 + 4) < (Ls : Int)) (
  gd ((0 : Int) ≤ (s.1 + 5) ∧ (s.1 + 5) < (Ls : Int)) (
  bnd (m_X10_feed (xs (Int.toNat (s.1 + 1))) (xs (Int.toNat (s.1 + 2))) (xs (Int.toNat (s.1 + 3))) (xs (Int.toNat (s.1 + 4))) (xs (Int.toNat (s.1 + 5))) s.2) (fun r259 D259 =>
  gd ((0 : Int) ≤ (s.1 + 1) ∧ (s.1 + 1) < (Ls : Int)) (
  gd ((0 : Int) ≤ (s.1 + 2) ∧ (s.1 + 2) < (Ls : Int)) (
  gd ((0 : Int) ≤ (s.1 + 3) ∧ (s.1 + 3) < (Ls : Int)) (
  gd ((0 : Int) ≤ (s.1 + 4) ∧ (s.1 + 4) < (Ls : Int)) (
  gd ((0 : Int) ≤ (s.1 + 5) ∧ (s.1 + 5) < (Ls : Int)) (
  bnd (m_X11_feed (xs (Int.toNat (s.1 + 1))) (xs (Int.toNat (s.1 + 2))) (xs (Int.toNat (s.1 + 3))) (xs (Int.toNat (s.1 + 4))) (xs (Int.toNat (s.1 + 5))) D259) (fun r293 D293 =>
  gd (InR r259 ∧ InR r293) (if r259 = r293 then (
    some (.inl ((s.1 + 7), D293))
  ) else (
    done (some 0)
  ))
  ))))))))))))
noncomputable def m_L_c1 (xs : Nat → Int) (Ls : Nat) (s : Int × DT) : Option ((Int × DT) ⊕ Int) :=
  gd ((0 : Int) ≤ (s.1 + 1) ∧ (s.1 + 1) < (Ls : Int)) (
  bnd (m_X10_end (xs (Int.toNat (s.1 + 1))) s.2) (fun r308 D308 =>
  gd ((0 : Int) ≤ (s.1 + 1) ∧ (s.1 + 1) < (Ls : Int)) (
  bnd (m_X11_end (xs (Int.toNat (s.1 + 1))) D308) (fun r318 D318 =>
  gd (InR r308 ∧ InR r318) (if r308 = r318 then (
    some (.inl ((s.1 + 7), D318))
  ) else (
    done (some 0)
  ))
  ))))
noncomputable def m_L_c2 (xs : Nat → Int) (Ls : Nat) (s : Int × DT) : Option ((Int × DT) ⊕ Int) :=
  bnd (m_L_read s.2) (fun r328 D328 =>
  bnd (m_X11_read D328) (fun r334 D334 =>
  (m_X11_thrown D334).bind (fun r340 =>
  gd (InR r340 ∧ InR r328) (if r340 = r328 then (
    gd (InR r328) (if r328 = 0 then (
      gd ((0 : Int) ≤ 0 ∧ 0 < (1 : Int)) (
      gd (InR r334) (
      gd (InL (D334.2 102 (Int.toNat 0)) ∧ InL r334) (if (D334.2 102 (Int.toNat 0)) = r334 then (
        some (.inl ((s.1 + 7), D334))
      ) else (
        done (some 0)
      ))
      ))
    ) else (
      some (.inl ((s.1 + 7), D334))
    ))
  ) else (
    done (some 0)
  ))
  )))
noncomputable def m_L_c3 (xs : Nat → Int) (Ls : Nat) (s : Int × DT) : Option ((Int × DT) ⊕ Int) :=
  (m_X10_fault s.2).bind (fun r371 =>
  bnd (m_X11_fault s.2) (fun r375 D375 =>
  gd (InR r371 ∧ InR r375) (if r371 = r375 then (
    some (.inl ((s.1 + 7), D375))
  ) else (
    done (some 0)
  ))
  ))
noncomputable def m_L_c4 (xs : Nat → Int) (Ls : Nat) (s : Int × DT) : Option ((Int × DT) ⊕ Int) :=
  gd ((0 : Int) ≤ (s.1 + 1) ∧ (s.1 + 1) < (Ls : Int)) (
  gd ((0 : Int) ≤ (s.1 + 2) ∧ (s.1 + 2) < (Ls : Int)) (
  bnd (m_L_cell (xs (Int.toNat (s.1 + 1))) (xs (Int.toNat (s.1 + 2))) s.2) (fun r397 D397 =>
  gd ((0 : Int) ≤ (s.1 + 1) ∧ (s.1 + 1) < (Ls : Int)) (
  gd ((0 : Int) ≤ (s.1 + 2) ∧ (s.1 + 2) < (Ls : Int)) (
  bnd (m_X11_cell (xs (Int.toNat (s.1 + 1))) (xs (Int.toNat (s.1 + 2))) D397) (fun r415 D415 =>
  (m_X11_thrown D415).bind (fun r421 =>
  gd (InR r421 ∧ InR r397) (if r421 = r397 then (
    gd (InR r397) (if r397 = 0 then (
      gd ((0 : Int) ≤ 0 ∧ 0 < (1 : Int)) (
      gd (InR r415) (
      gd (InL (D415.2 102 (Int.toNat 0)) ∧ InL r415) (if (D415.2 102 (Int.toNat 0)) = r415 then (
        some (.inl ((s.1 + 7), D415))
      ) else (
        done (some 0)
      ))
      ))
    ) else (
      some (.inl ((s.1 + 7), D415))
    ))
  ) else (
    done (some 0)
  ))
  )))))))
noncomputable def m_L_c5 (xs : Nat → Int) (Ls : Nat) (s : Int × DT) : Option ((Int × DT) ⊕ Int) :=
  gd ((0 : Int) ≤ (s.1 + 1) ∧ (s.1 + 1) < (Ls : Int)) (
  gd ((0 : Int) ≤ (s.1 + 2) ∧ (s.1 + 2) < (Ls : Int)) (
  bnd (m_L_zone (xs (Int.toNat (s.1 + 1))) (xs (Int.toNat (s.1 + 2))) s.2) (fun r465 D465 =>
  gd ((0 : Int) ≤ (s.1 + 1) ∧ (s.1 + 1) < (Ls : Int)) (
  gd ((0 : Int) ≤ (s.1 + 2) ∧ (s.1 + 2) < (Ls : Int)) (
  bnd (m_X11_zone (xs (Int.toNat (s.1 + 1))) (xs (Int.toNat (s.1 + 2))) D465) (fun r483 D483 =>
  (m_X11_thrown D483).bind (fun r489 =>
  gd (InR r489 ∧ InR r465) (if r489 = r465 then (
    gd (InR r465) (if r465 = 0 then (
      gd ((0 : Int) ≤ 0 ∧ 0 < (1 : Int)) (
      gd (InR r483) (
      gd (InL (D483.2 102 (Int.toNat 0)) ∧ InL r483) (if (D483.2 102 (Int.toNat 0)) = r483 then (
        some (.inl ((s.1 + 7), D483))
      ) else (
        done (some 0)
      ))
      ))
    ) else (
      some (.inl ((s.1 + 7), D483))
    ))
  ) else (
    done (some 0)
  ))
  )))))))
noncomputable def m_L_c6 (xs : Nat → Int) (Ls : Nat) (s : Int × DT) : Option ((Int × DT) ⊕ Int) :=
  gd ((0 : Int) ≤ (s.1 + 1) ∧ (s.1 + 1) < (Ls : Int)) (
  gd ((0 : Int) ≤ (s.1 + 2) ∧ (s.1 + 2) < (Ls : Int)) (
  bnd (m_L_name (xs (Int.toNat (s.1 + 1))) (xs (Int.toNat (s.1 + 2))) s.2) (fun r533 D533 =>
  gd ((0 : Int) ≤ (s.1 + 1) ∧ (s.1 + 1) < (Ls : Int)) (
  gd ((0 : Int) ≤ (s.1 + 2) ∧ (s.1 + 2) < (Ls : Int)) (
  bnd (m_X11_name (xs (Int.toNat (s.1 + 1))) (xs (Int.toNat (s.1 + 2))) D533) (fun r551 D551 =>
  (m_X11_thrown D551).bind (fun r557 =>
  gd (InR r557 ∧ InR r533) (if r557 = r533 then (
    gd (InR r533) (if r533 = 0 then (
      gd ((0 : Int) ≤ 0 ∧ 0 < (1 : Int)) (
      gd (InR r551) (
      gd (InL (D551.2 102 (Int.toNat 0)) ∧ InL r551) (if (D551.2 102 (Int.toNat 0)) = r551 then (
        some (.inl ((s.1 + 7), D551))
      ) else (
        done (some 0)
      ))
      ))
    ) else (
      some (.inl ((s.1 + 7), D551))
    ))
  ) else (
    done (some 0)
  ))
  )))))))
noncomputable def m_L_c7 (xs : Nat → Int) (Ls : Nat) (s : Int × DT) : Option ((Int × DT) ⊕ Int) :=
  gd ((0 : Int) ≤ (s.1 + 1) ∧ (s.1 + 1) < (Ls : Int)) (
  gd ((0 : Int) ≤ (s.1 + 2) ∧ (s.1 + 2) < (Ls : Int)) (
  gd ((0 : Int) ≤ (s.1 + 3) ∧ (s.1 + 3) < (Ls : Int)) (
  bnd (m_L_people (xs (Int.toNat (s.1 + 1))) (xs (Int.toNat (s.1 + 2))) (xs (Int.toNat (s.1 + 3))) s.2) (fun r607 D607 =>
  gd ((0 : Int) ≤ (s.1 + 1) ∧ (s.1 + 1) < (Ls : Int)) (
  gd ((0 : Int) ≤ (s.1 + 2) ∧ (s.1 + 2) < (Ls : Int)) (
  gd ((0 : Int) ≤ (s.1 + 3) ∧ (s.1 + 3) < (Ls : Int)) (
  bnd (m_X11_people (xs (Int.toNat (s.1 + 1))) (xs (Int.toNat (s.1 + 2))) (xs (Int.toNat (s.1 + 3))) D607) (fun r631 D631 =>
  (m_X11_thrown D631).bind (fun r637 =>
  gd (InR r637 ∧ InR r607) (if r637 = r607 then (
    gd (InR r607) (if r607 = 0 then (
      gd ((0 : Int) ≤ 0 ∧ 0 < (1 : Int)) (
      gd (InR r631) (
      gd (InL (D631.2 102 (Int.toNat 0)) ∧ InL r631) (if (D631.2 102 (Int.toNat 0)) = r631 then (
        some (.inl ((s.1 + 7), D631))
      ) else (
        done (some 0)
      ))
      ))
    ) else (
      some (.inl ((s.1 + 7), D631))
    ))
  ) else (
    done (some 0)
  ))
  )))))))))
noncomputable def m_L_c8 (xs : Nat → Int) (Ls : Nat) (s : Int × DT) : Option ((Int × DT) ⊕ Int) :=
  gd ((0 : Int) ≤ (s.1 + 1) ∧ (s.1 + 1) < (Ls : Int)) (
  gd ((0 : Int) ≤ (s.1 + 2) ∧ (s.1 + 2) < (Ls : Int)) (
  bnd (m_L_lives (xs (Int.toNat (s.1 + 1))) (xs (Int.toNat (s.1 + 2))) s.2) (fun r681 D681 =>
  gd ((0 : Int) ≤ (s.1 + 1) ∧ (s.1 + 1) < (Ls : Int)) (
  gd ((0 : Int) ≤ (s.1 + 2) ∧ (s.1 + 2) < (Ls : Int)) (
  bnd (m_X11_lives (xs (Int.toNat (s.1 + 1))) (xs (Int.toNat (s.1 + 2))) D681) (fun r699 D699 =>
  (m_X11_thrown D699).bind (fun r705 =>
  gd (InR r705 ∧ InR r681) (if r705 = r681 then (
    gd (InR r681) (if r681 = 0 then (
      gd ((0 : Int) ≤ 0 ∧ 0 < (1 : Int)) (
      gd (InR r699) (
      gd (InL (D699.2 102 (Int.toNat 0)) ∧ InL r699) (if (D699.2 102 (Int.toNat 0)) = r699 then (
        some (.inl ((s.1 + 7), D699))
      ) else (
        done (some 0)
      ))
      ))
    ) else (
      some (.inl ((s.1 + 7), D699))
    ))
  ) else (
    done (some 0)
  ))
  )))))))
noncomputable def m_L_c9 (xs : Nat → Int) (Ls : Nat) (s : Int × DT) : Option ((Int × DT) ⊕ Int) :=
  gd ((0 : Int) ≤ (s.1 + 1) ∧ (s.1 + 1) < (Ls : Int)) (
  gd ((0 : Int) ≤ (s.1 + 2) ∧ (s.1 + 2) < (Ls : Int)) (
  gd (InR (xs (Int.toNat (s.1 + 2)))) (if (xs (Int.toNat (s.1 + 2))) = 0 then (
    bnd (m_L_flood (xs (Int.toNat (s.1 + 1))) 0 s.2) (fun r757 D757 =>
    gd ((0 : Int) ≤ (s.1 + 1) ∧ (s.1 + 1) < (Ls : Int)) (
    gd ((0 : Int) ≤ (s.1 + 2) ∧ (s.1 + 2) < (Ls : Int)) (
    gd (InR (xs (Int.toNat (s.1 + 2)))) (if (xs (Int.toNat (s.1 + 2))) = 0 then (
      bnd (m_X11_flood (xs (Int.toNat (s.1 + 1))) 0 D757) (fun r783 D783 =>
      (m_X11_thrown D783).bind (fun r789 =>
      gd (InR r789 ∧ InR r757) (if r789 = r757 then (
        gd (InR r757) (if r757 = 0 then (
          gd ((0 : Int) ≤ 0 ∧ 0 < (1 : Int)) (
          gd (InR r783) (if r783 = 0 then (
            gd (InL (D783.2 102 (Int.toNat 0)) ∧ InL 0) (if (D783.2 102 (Int.toNat 0)) = 0 then (
              some (.inl ((s.1 + 7), D783))
            ) else (
              done (some 0)
            ))
          ) else (
            gd (InL (D783.2 102 (Int.toNat 0)) ∧ InL 1) (if (D783.2 102 (Int.toNat 0)) = 1 then (
              some (.inl ((s.1 + 7), D783))
            ) else (
              done (some 0)
            ))
          ))
          )
        ) else (
          some (.inl ((s.1 + 7), D783))
        ))
      ) else (
        done (some 0)
      ))
      ))
    ) else (
      bnd (m_X11_flood (xs (Int.toNat (s.1 + 1))) 1 D757) (fun r783 D783 =>
      (m_X11_thrown D783).bind (fun r789 =>
      gd (InR r789 ∧ InR r757) (if r789 = r757 then (
        gd (InR r757) (if r757 = 0 then (
          gd ((0 : Int) ≤ 0 ∧ 0 < (1 : Int)) (
          gd (InR r783) (if r783 = 0 then (
            gd (InL (D783.2 102 (Int.toNat 0)) ∧ InL 0) (if (D783.2 102 (Int.toNat 0)) = 0 then (
              some (.inl ((s.1 + 7), D783))
            ) else (
              done (some 0)
            ))
          ) else (
            gd (InL (D783.2 102 (Int.toNat 0)) ∧ InL 1) (if (D783.2 102 (Int.toNat 0)) = 1 then (
              some (.inl ((s.1 + 7), D783))
            ) else (
              done (some 0)
            ))
          ))
          )
        ) else (
          some (.inl ((s.1 + 7), D783))
        ))
      ) else (
        done (some 0)
      ))
      ))
    ))
    )))
  ) else (
    bnd (m_L_flood (xs (Int.toNat (s.1 + 1))) 1 s.2) (fun r757 D757 =>
    gd ((0 : Int) ≤ (s.1 + 1) ∧ (s.1 + 1) < (Ls : Int)) (
    gd ((0 : Int) ≤ (s.1 + 2) ∧ (s.1 + 2) < (Ls : Int)) (
    gd (InR (xs (Int.toNat (s.1 + 2)))) (if (xs (Int.toNat (s.1 + 2))) = 0 then (
      bnd (m_X11_flood (xs (Int.toNat (s.1 + 1))) 0 D757) (fun r783 D783 =>
      (m_X11_thrown D783).bind (fun r789 =>
      gd (InR r789 ∧ InR r757) (if r789 = r757 then (
        gd (InR r757) (if r757 = 0 then (
          gd ((0 : Int) ≤ 0 ∧ 0 < (1 : Int)) (
          gd (InR r783) (if r783 = 0 then (
            gd (InL (D783.2 102 (Int.toNat 0)) ∧ InL 0) (if (D783.2 102 (Int.toNat 0)) = 0 then (
              some (.inl ((s.1 + 7), D783))
            ) else (
              done (some 0)
            ))
          ) else (
            gd (InL (D783.2 102 (Int.toNat 0)) ∧ InL 1) (if (D783.2 102 (Int.toNat 0)) = 1 then (
              some (.inl ((s.1 + 7), D783))
            ) else (
              done (some 0)
            ))
          ))
          )
        ) else (
          some (.inl ((s.1 + 7), D783))
        ))
      ) else (
        done (some 0)
      ))
      ))
    ) else (
      bnd (m_X11_flood (xs (Int.toNat (s.1 + 1))) 1 D757) (fun r783 D783 =>
      (m_X11_thrown D783).bind (fun r789 =>
      gd (InR r789 ∧ InR r757) (if r789 = r757 then (
        gd (InR r757) (if r757 = 0 then (
          gd ((0 : Int) ≤ 0 ∧ 0 < (1 : Int)) (
          gd (InR r783) (if r783 = 0 then (
            gd (InL (D783.2 102 (Int.toNat 0)) ∧ InL 0) (if (D783.2 102 (Int.toNat 0)) = 0 then (
              some (.inl ((s.1 + 7), D783))
            ) else (
              done (some 0)
            ))
          ) else (
            gd (InL (D783.2 102 (Int.toNat 0)) ∧ InL 1) (if (D783.2 102 (Int.toNat 0)) = 1 then (
              some (.inl ((s.1 + 7), D783))
            ) else (
              done (some 0)
            ))
          ))
          )
        ) else (
          some (.inl ((s.1 + 7), D783))
        ))
      ) else (
        done (some 0)
      ))
      ))
    ))
    )))
  ))
  ))
noncomputable def m_L_c10 (xs : Nat → Int) (Ls : Nat) (s : Int × DT) : Option ((Int × DT) ⊕ Int) :=
  gd ((0 : Int) ≤ (s.1 + 1) ∧ (s.1 + 1) < (Ls : Int)) (
  bnd (m_L_unit (xs (Int.toNat (s.1 + 1))) s.2) (fun r834 D834 =>
  gd ((0 : Int) ≤ (s.1 + 1) ∧ (s.1 + 1) < (Ls : Int)) (
  bnd (m_X11_unit (xs (Int.toNat (s.1 + 1))) D834) (fun r846 D846 =>
  (m_X11_thrown D846).bind (fun r852 =>
  gd (InR r852 ∧ InR r834) (if r852 = r834 then (
    gd (InR r834) (if r834 = 0 then (
      gd ((0 : Int) ≤ 0 ∧ 0 < (1 : Int)) (
      gd (InR r846) (
      gd (InL (D846.2 102 (Int.toNat 0)) ∧ InL r846) (if (D846.2 102 (Int.toNat 0)) = r846 then (
        some (.inl ((s.1 + 7), D846))
      ) else (
        done (some 0)
      ))
      ))
    ) else (
      some (.inl ((s.1 + 7), D846))
    ))
  ) else (
    done (some 0)
  ))
  )))))
noncomputable def m_L_c11 (xs : Nat → Int) (Ls : Nat) (s : Int × DT) : Option ((Int × DT) ⊕ Int) :=
  gd ((0 : Int) ≤ (s.1 + 1) ∧ (s.1 + 1) < (Ls : Int)) (
  bnd (m_L_factor (xs (Int.toNat (s.1 + 1))) s.2) (fun r890 D890 =>
  gd ((0 : Int) ≤ (s.1 + 1) ∧ (s.1 + 1) < (Ls : Int)) (
  bnd (m_X11_factor (xs (Int.toNat (s.1 + 1))) D890) (fun r902 D902 =>
  (m_X11_thrown D902).bind (fun r908 =>
  gd (InR r908 ∧ InR r890) (if r908 = r890 then (
    gd (InR r890) (if r890 = 0 then (
      gd ((0 : Int) ≤ 0 ∧ 0 < (1 : Int)) (
      gd (InR r902) (
      gd (InL (D902.2 102 (Int.toNat 0)) ∧ InL r902) (if (D902.2 102 (Int.toNat 0)) = r902 then (
        some (.inl ((s.1 + 7), D902))
      ) else (
        done (some 0)
      ))
      ))
    ) else (
      some (.inl ((s.1 + 7), D902))
    ))
  ) else (
    done (some 0)
  ))
  )))))
noncomputable def m_L_c12 (xs : Nat → Int) (Ls : Nat) (s : Int × DT) : Option ((Int × DT) ⊕ Int) :=
  gd ((0 : Int) ≤ (s.1 + 1) ∧ (s.1 + 1) < (Ls : Int)) (
  gd ((0 : Int) ≤ (s.1 + 2) ∧ (s.1 + 2) < (Ls : Int)) (
  bnd (m_L_order (xs (Int.toNat (s.1 + 1))) (xs (Int.toNat (s.1 + 2))) s.2) (fun r952 D952 =>
  gd ((0 : Int) ≤ (s.1 + 1) ∧ (s.1 + 1) < (Ls : Int)) (
  gd ((0 : Int) ≤ (s.1 + 2) ∧ (s.1 + 2) < (Ls : Int)) (
  bnd (m_X11_order (xs (Int.toNat (s.1 + 1))) (xs (Int.toNat (s.1 + 2))) D952) (fun r970 D970 =>
  (m_X11_thrown D970).bind (fun r976 =>
  gd (InR r976 ∧ InR r952) (if r976 = r952 then (
    gd (InR r952) (if r952 = 0 then (
      gd ((0 : Int) ≤ 0 ∧ 0 < (1 : Int)) (
      gd (InR r970) (
      gd (InL (D970.2 102 (Int.toNat 0)) ∧ InL r970) (if (D970.2 102 (Int.toNat 0)) = r970 then (
        some (.inl ((s.1 + 7), D970))
      ) else (
        done (some 0)
      ))
      ))
    ) else (
      some (.inl ((s.1 + 7), D970))
    ))
  ) else (
    done (some 0)
  ))
  )))))))
noncomputable def m_L_c13 (xs : Nat → Int) (Ls : Nat) (s : Int × DT) : Option ((Int × DT) ⊕ Int) :=
  gd ((0 : Int) ≤ (s.1 + 1) ∧ (s.1 + 1) < (Ls : Int)) (
  bnd (m_L_stands (xs (Int.toNat (s.1 + 1))) s.2) (fun r1014 D1014 =>
  gd ((0 : Int) ≤ (s.1 + 1) ∧ (s.1 + 1) < (Ls : Int)) (
  bnd (m_X11_stands (xs (Int.toNat (s.1 + 1))) D1014) (fun r1026 D1026 =>
  (m_X11_thrown D1026).bind (fun r1032 =>
  gd (InR r1032 ∧ InR r1014) (if r1032 = r1014 then (
    gd (InR r1014) (if r1014 = 0 then (
      gd ((0 : Int) ≤ 0 ∧ 0 < (1 : Int)) (
      gd (InR r1026) (
      gd (InL (D1026.2 102 (Int.toNat 0)) ∧ InL r1026) (if (D1026.2 102 (Int.toNat 0)) = r1026 then (
        some (.inl ((s.1 + 7), D1026))
      ) else (
        done (some 0)
      ))
      ))
    ) else (
      some (.inl ((s.1 + 7), D1026))
    ))
  ) else (
    done (some 0)
  ))
  )))))
noncomputable def m_L_c14 (xs : Nat → Int) (Ls : Nat) (s : Int × DT) : Option ((Int × DT) ⊕ Int) :=
  gd ((0 : Int) ≤ (s.1 + 1) ∧ (s.1 + 1) < (Ls : Int)) (
  gd ((0 : Int) ≤ (s.1 + 2) ∧ (s.1 + 2) < (Ls : Int)) (
  gd ((0 : Int) ≤ (s.1 + 3) ∧ (s.1 + 3) < (Ls : Int)) (
  bnd (m_L_dots (xs (Int.toNat (s.1 + 1))) (xs (Int.toNat (s.1 + 2))) (xs (Int.toNat (s.1 + 3))) s.2) (fun r1082 D1082 =>
  gd ((0 : Int) ≤ (s.1 + 1) ∧ (s.1 + 1) < (Ls : Int)) (
  gd ((0 : Int) ≤ (s.1 + 2) ∧ (s.1 + 2) < (Ls : Int)) (
  gd ((0 : Int) ≤ (s.1 + 3) ∧ (s.1 + 3) < (Ls : Int)) (
  bnd (m_X11_dots (xs (Int.toNat (s.1 + 1))) (xs (Int.toNat (s.1 + 2))) (xs (Int.toNat (s.1 + 3))) D1082) (fun r1106 D1106 =>
  (m_X11_thrown D1106).bind (fun r1112 =>
  gd (InR r1112 ∧ InR r1082) (if r1112 = r1082 then (
    gd (InR r1082) (if r1082 = 0 then (
      gd ((0 : Int) ≤ 0 ∧ 0 < (1 : Int)) (
      gd (InR r1106) (
      gd (InL (D1106.2 102 (Int.toNat 0)) ∧ InL r1106) (if (D1106.2 102 (Int.toNat 0)) = r1106 then (
        some (.inl ((s.1 + 7), D1106))
      ) else (
        done (some 0)
      ))
      ))
    ) else (
      some (.inl ((s.1 + 7), D1106))
    ))
  ) else (
    done (some 0)
  ))
  )))))))))
noncomputable def m_L_c15 (xs : Nat → Int) (Ls : Nat) (s : Int × DT) : Option ((Int × DT) ⊕ Int) :=
  gd ((0 : Int) ≤ (s.1 + 1) ∧ (s.1 + 1) < (Ls : Int)) (
  gd ((0 : Int) ≤ (s.1 + 2) ∧ (s.1 + 2) < (Ls : Int)) (
  gd ((0 : Int) ≤ (s.1 + 3) ∧ (s.1 + 3) < (Ls : Int)) (
  bnd (m_L_carried (xs (Int.toNat (s.1 + 1))) (xs (Int.toNat (s.1 + 2))) (xs (Int.toNat (s.1 + 3))) s.2) (fun r1162 D1162 =>
  gd ((0 : Int) ≤ (s.1 + 1) ∧ (s.1 + 1) < (Ls : Int)) (
  gd ((0 : Int) ≤ (s.1 + 2) ∧ (s.1 + 2) < (Ls : Int)) (
  gd ((0 : Int) ≤ (s.1 + 3) ∧ (s.1 + 3) < (Ls : Int)) (
  bnd (m_X11_carried (xs (Int.toNat (s.1 + 1))) (xs (Int.toNat (s.1 + 2))) (xs (Int.toNat (s.1 + 3))) D1162) (fun r1186 D1186 =>
  (m_X11_thrown D1186).bind (fun r1192 =>
  gd (InR r1192 ∧ InR r1162) (if r1192 = r1162 then (
    gd (InR r1162) (if r1162 = 0 then (
      gd ((0 : Int) ≤ 0 ∧ 0 < (1 : Int)) (
      gd (InR r1186) (
      gd (InL (D1186.2 102 (Int.toNat 0)) ∧ InL r1186) (if (D1186.2 102 (Int.toNat 0)) = r1186 then (
        some (.inl ((s.1 + 7), D1186))
      ) else (
        done (some 0)
      ))
      ))
    ) else (
      some (.inl ((s.1 + 7), D1186))
    ))
  ) else (
    done (some 0)
  ))
  )))))))))
noncomputable def m_L_c16 (xs : Nat → Int) (Ls : Nat) (s : Int × DT) : Option ((Int × DT) ⊕ Int) :=
  gd ((0 : Int) ≤ (s.1 + 1) ∧ (s.1 + 1) < (Ls : Int)) (
  gd ((0 : Int) ≤ (s.1 + 2) ∧ (s.1 + 2) < (Ls : Int)) (
  bnd (m_L_left (xs (Int.toNat (s.1 + 1))) (xs (Int.toNat (s.1 + 2))) s.2) (fun r1236 D1236 =>
  gd ((0 : Int) ≤ (s.1 + 1) ∧ (s.1 + 1) < (Ls : Int)) (
  gd ((0 : Int) ≤ (s.1 + 2) ∧ (s.1 + 2) < (Ls : Int)) (
  bnd (m_X11_left (xs (Int.toNat (s.1 + 1))) (xs (Int.toNat (s.1 + 2))) D1236) (fun r1254 D1254 =>
  (m_X11_thrown D1254).bind (fun r1260 =>
  gd (InR r1260 ∧ InR r1236) (if r1260 = r1236 then (
    gd (InR r1236) (if r1236 = 0 then (
      gd ((0 : Int) ≤ 0 ∧ 0 < (1 : Int)) (
      gd (InR r1254) (
      gd (InL (D1254.2 102 (Int.toNat 0)) ∧ InL r1254) (if (D1254.2 102 (Int.toNat 0)) = r1254 then (
        some (.inl ((s.1 + 7), D1254))
      ) else (
        done (some 0)
      ))
      ))
    ) else (
      some (.inl ((s.1 + 7), D1254))
    ))
  ) else (
    done (some 0)
  ))
  )))))))
noncomputable def m_L_c17 (xs : Nat → Int) (Ls : Nat) (s : Int × DT) : Option ((Int × DT) ⊕ Int) :=
  gd ((0 : Int) ≤ (s.1 + 1) ∧ (s.1 + 1) < (Ls : Int)) (
  gd ((0 : Int) ≤ (s.1 + 2) ∧ (s.1 + 2) < (Ls : Int)) (
  bnd (m_L_all (xs (Int.toNat (s.1 + 1))) (xs (Int.toNat (s.1 + 2))) s.2) (fun r1304 D1304 =>
  gd ((0 : Int) ≤ (s.1 + 1) ∧ (s.1 + 1) < (Ls : Int)) (
  gd ((0 : Int) ≤ (s.1 + 2) ∧ (s.1 + 2) < (Ls : Int)) (
  bnd (m_X11_all (xs (Int.toNat (s.1 + 1))) (xs (Int.toNat (s.1 + 2))) D1304) (fun r1322 D1322 =>
  (m_X11_thrown D1322).bind (fun r1328 =>
  gd (InR r1328 ∧ InR r1304) (if r1328 = r1304 then (
    gd (InR r1304) (if r1304 = 0 then (
      gd ((0 : Int) ≤ 0 ∧ 0 < (1 : Int)) (
      gd (InR r1322) (
      gd (InL (D1322.2 102 (Int.toNat 0)) ∧ InL r1322) (if (D1322.2 102 (Int.toNat 0)) = r1322 then (
        some (.inl ((s.1 + 7), D1322))
      ) else (
        done (some 0)
      ))
      ))
    ) else (
      some (.inl ((s.1 + 7), D1322))
    ))
  ) else (
    done (some 0)
  ))
  )))))))
noncomputable def m_L_c18 (xs : Nat → Int) (Ls : Nat) (s : Int × DT) : Option ((Int × DT) ⊕ Int) :=
  gd ((0 : Int) ≤ (s.1 + 1) ∧ (s.1 + 1) < (Ls : Int)) (
  gd ((0 : Int) ≤ (s.1 + 2) ∧ (s.1 + 2) < (Ls : Int)) (
  gd ((0 : Int) ≤ (s.1 + 3) ∧ (s.1 + 3) < (Ls : Int)) (
  gd ((0 : Int) ≤ (s.1 + 4) ∧ (s.1 + 4) < (Ls : Int)) (
  bnd (m_L_dot (xs (Int.toNat (s.1 + 1))) (xs (Int.toNat (s.1 + 2))) (xs (Int.toNat (s.1 + 3))) (xs (Int.toNat (s.1 + 4))) s.2) (fun r1384 D1384 =>
  gd ((0 : Int) ≤ (s.1 + 1) ∧ (s.1 + 1) < (Ls : Int)) (
  gd ((0 : Int) ≤ (s.1 + 2) ∧ (s.1 + 2) < (Ls : Int)) (
  gd ((0 : Int) ≤ (s.1 + 3) ∧ (s.1 + 3) < (Ls : Int)) (
  gd ((0 : Int) ≤ (s.1 + 4) ∧ (s.1 + 4) < (Ls : Int)) (
  bnd (m_X11_dot (xs (Int.toNat (s.1 + 1))) (xs (Int.toNat (s.1 + 2))) (xs (Int.toNat (s.1 + 3))) (xs (Int.toNat (s.1 + 4))) D1384) (fun r1414 D1414 =>
  (m_X11_thrown D1414).bind (fun r1420 =>
  gd (InR r1420 ∧ InR r1384) (if r1420 = r1384 then (
    gd (InR r1384) (if r1384 = 0 then (
      gd ((0 : Int) ≤ 0 ∧ 0 < (1 : Int)) (
      gd (InR r1414) (
      gd (InL (D1414.2 102 (Int.toNat 0)) ∧ InL r1414) (if (D1414.2 102 (Int.toNat 0)) = r1414 then (
        some (.inl ((s.1 + 7), D1414))
      ) else (
        done (some 0)
      ))
      ))
    ) else (
      some (.inl ((s.1 + 7), D1414))
    ))
  ) else (
    done (some 0)
  ))
  )))))))))))
noncomputable def m_L_c19 (xs : Nat → Int) (Ls : Nat) (s : Int × DT) : Option ((Int × DT) ⊕ Int) :=
  gd ((0 : Int) ≤ (s.1 + 1) ∧ (s.1 + 1) < (Ls : Int)) (
  gd ((0 : Int) ≤ (s.1 + 2) ∧ (s.1 + 2) < (Ls : Int)) (
  gd ((0 : Int) ≤ (s.1 + 3) ∧ (s.1 + 3) < (Ls : Int)) (
  bnd (m_L_crowd (xs (Int.toNat (s.1 + 1))) (xs (Int.toNat (s.1 + 2))) (xs (Int.toNat (s.1 + 3))) s.2) (fun r1470 D1470 =>
  gd ((0 : Int) ≤ (s.1 + 1) ∧ (s.1 + 1) < (Ls : Int)) (
  gd ((0 : Int) ≤ (s.1 + 2) ∧ (s.1 + 2) < (Ls : Int)) (
  gd ((0 : Int) ≤ (s.1 + 3) ∧ (s.1 + 3) < (Ls : Int)) (
  bnd (m_X11_crowd (xs (Int.toNat (s.1 + 1))) (xs (Int.toNat (s.1 + 2))) (xs (Int.toNat (s.1 + 3))) D1470) (fun r1494 D1494 =>
  (m_X11_thrown D1494).bind (fun r1500 =>
  gd (InR r1500 ∧ InR r1470) (if r1500 = r1470 then (
    gd (InR r1470) (if r1470 = 0 then (
      gd ((0 : Int) ≤ 0 ∧ 0 < (1 : Int)) (
      gd (InR r1494) (
      gd (InL (D1494.2 102 (Int.toNat 0)) ∧ InL r1494) (if (D1494.2 102 (Int.toNat 0)) = r1494 then (
        some (.inl ((s.1 + 7), D1494))
      ) else (
        done (some 0)
      ))
      ))
    ) else (
      some (.inl ((s.1 + 7), D1494))
    ))
  ) else (
    done (some 0)
  ))
  )))))))))
noncomputable def m_L_c20 (xs : Nat → Int) (Ls : Nat) (s : Int × DT) : Option ((Int × DT) ⊕ Int) :=
  gd ((0 : Int) ≤ (s.1 + 1) ∧ (s.1 + 1) < (Ls : Int)) (
  bnd (m_L_apart (xs (Int.toNat (s.1 + 1))) s.2) (fun r1538 D1538 =>
  gd ((0 : Int) ≤ (s.1 + 1) ∧ (s.1 + 1) < (Ls : Int)) (
  bnd (m_X11_apart (xs (Int.toNat (s.1 + 1))) D1538) (fun r1550 D1550 =>
  (m_X11_thrown D1550).bind (fun r1556 =>
  gd (InR r1556 ∧ InR r1538) (if r1556 = r1538 then (
    gd (InR r1538) (if r1538 = 0 then (
      gd ((0 : Int) ≤ 0 ∧ 0 < (1 : Int)) (
      gd (InR r1550) (
      gd (InL (D1550.2 102 (Int.toNat 0)) ∧ InL r1550) (if (D1550.2 102 (Int.toNat 0)) = r1550 then (
        some (.inl ((s.1 + 7), D1550))
      ) else (
        done (some 0)
      ))
      ))
    ) else (
      some (.inl ((s.1 + 7), D1550))
    ))
  ) else (
    done (some 0)
  ))
  )))))
noncomputable def m_L_c21 (xs : Nat → Int) (Ls : Nat) (s : Int × DT) : Option ((Int × DT) ⊕ Int) :=
  gd ((0 : Int) ≤ (s.1 + 1) ∧ (s.1 + 1) < (Ls : Int)) (
  gd ((0 : Int) ≤ (s.1 + 2) ∧ (s.1 + 2) < (Ls : Int)) (
  bnd (m_L_off (xs (Int.toNat (s.1 + 1))) (xs (Int.toNat (s.1 + 2))) s.2) (fun r1600 D1600 =>
  gd ((0 : Int) ≤ (s.1 + 1) ∧ (s.1 + 1) < (Ls : Int)) (
  gd ((0 : Int) ≤ (s.1 + 2) ∧ (s.1 + 2) < (Ls : Int)) (
  bnd (m_X11_off (xs (Int.toNat (s.1 + 1))) (xs (Int.toNat (s.1 + 2))) D1600) (fun r1618 D1618 =>
  (m_X11_thrown D1618).bind (fun r1624 =>
  gd (InR r1624 ∧ InR r1600) (if r1624 = r1600 then (
    gd (InR r1600) (if r1600 = 0 then (
      gd ((0 : Int) ≤ 0 ∧ 0 < (1 : Int)) (
      gd (InR r1618) (
      gd (InL (D1618.2 102 (Int.toNat 0)) ∧ InL r1618) (if (D1618.2 102 (Int.toNat 0)) = r1618 then (
        some (.inl ((s.1 + 7), D1618))
      ) else (
        done (some 0)
      ))
      ))
    ) else (
      some (.inl ((s.1 + 7), D1618))
    ))
  ) else (
    done (some 0)
  ))
  )))))))
noncomputable def m_L_c22 (xs : Nat → Int) (Ls : Nat) (s : Int × DT) : Option ((Int × DT) ⊕ Int) :=
  gd ((0 : Int) ≤ (s.1 + 1) ∧ (s.1 + 1) < (Ls : Int)) (
  gd ((0 : Int) ≤ (s.1 + 2) ∧ (s.1 + 2) < (Ls : Int)) (
  gd ((0 : Int) ≤ (s.1 + 3) ∧ (s.1 + 3) < (Ls : Int)) (
  gd ((0 : Int) ≤ (s.1 + 4) ∧ (s.1 + 4) < (Ls : Int)) (
  gd ((0 : Int) ≤ (s.1 + 5) ∧ (s.1 + 5) < (Ls : Int)) (
  bnd (m_L_move (xs (Int.toNat (s.1 + 1))) (xs (Int.toNat (s.1 + 2))) (xs (Int.toNat (s.1 + 3))) (xs (Int.toNat (s.1 + 4))) (xs (Int.toNat (s.1 + 5))) s.2) (fun r1686 D1686 =>
  gd ((0 : Int) ≤ (s.1 + 1) ∧ (s.1 + 1) < (Ls : Int)) (
  gd ((0 : Int) ≤ (s.1 + 2) ∧ (s.1 + 2) < (Ls : Int)) (
  gd ((0 : Int) ≤ (s.1 + 3) ∧ (s.1 + 3) < (Ls : Int)) (
  gd ((0 : Int) ≤ (s.1 + 4) ∧ (s.1 + 4) < (Ls : Int)) (
  gd ((0 : Int) ≤ (s.1 + 5) ∧ (s.1 + 5) < (Ls : Int)) (
  bnd (m_X11_move (xs (Int.toNat (s.1 + 1))) (xs (Int.toNat (s.1 + 2))) (xs (Int.toNat (s.1 + 3))) (xs (Int.toNat (s.1 + 4))) (xs (Int.toNat (s.1 + 5))) D1686) (fun r1722 D1722 =>
  (m_X11_thrown D1722).bind (fun r1728 =>
  gd (InR r1728 ∧ InR r1686) (if r1728 = r1686 then (
    gd (InR r1686) (if r1686 = 0 then (
      gd ((0 : Int) ≤ 0 ∧ 0 < (1 : Int)) (
      gd (InR r1722) (
      gd (InL (D1722.2 102 (Int.toNat 0)) ∧ InL r1722) (if (D1722.2 102 (Int.toNat 0)) = r1722 then (
        some (.inl ((s.1 + 7), D1722))
      ) else (
        done (some 0)
      ))
      ))
    ) else (
      some (.inl ((s.1 + 7), D1722))
    ))
  ) else (
    done (some 0)
  ))
  )))))))))))))
noncomputable def m_L_c23 (xs : Nat → Int) (Ls : Nat) (s : Int × DT) : Option ((Int × DT) ⊕ Int) :=
  gd ((0 : Int) ≤ (s.1 + 1) ∧ (s.1 + 1) < (Ls : Int)) (
  gd ((0 : Int) ≤ (s.1 + 2) ∧ (s.1 + 2) < (Ls : Int)) (
  gd ((0 : Int) ≤ (s.1 + 3) ∧ (s.1 + 3) < (Ls : Int)) (
  gd ((0 : Int) ≤ (s.1 + 4) ∧ (s.1 + 4) < (Ls : Int)) (
  gd ((0 : Int) ≤ (s.1 + 5) ∧ (s.1 + 5) < (Ls : Int)) (
  gd ((0 : Int) ≤ (s.1 + 6) ∧ (s.1 + 6) < (Ls : Int)) (
  bnd (m_L_tries (xs (Int.toNat (s.1 + 1))) (xs (Int.toNat (s.1 + 2))) (xs (Int.toNat (s.1 + 3))) (xs (Int.toNat (s.1 + 4))) (xs (Int.toNat (s.1 + 5))) (xs (Int.toNat (s.1 + 6))) s.2) (fun r1797 D1797 =>
  gd ((0 : Int) ≤ (s.1 + 1) ∧ (s.1 + 1) < (Ls : Int)) (
  gd ((0 : Int) ≤ (s.1 + 2) ∧ (s.1 + 2) < (Ls : Int)) (
  gd ((0 : Int) ≤ (s.1 + 3) ∧ (s.1 + 3) < (Ls : Int)) (
  gd ((0 : Int) ≤ (s.1 + 4) ∧ (s.1 + 4) < (Ls : Int)) (
  gd ((0 : Int) ≤ (s.1 + 5) ∧ (s.1 + 5) < (Ls : Int)) (
  gd ((0 : Int) ≤ (s.1 + 6) ∧ (s.1 + 6) < (Ls : Int)) (
  bnd (m_X11_tries (xs (Int.toNat (s.1 + 1))) (xs (Int.toNat (s.1 + 2))) (xs (Int.toNat (s.1 + 3))) (xs (Int.toNat (s.1 + 4))) (xs (Int.toNat (s.1 + 5))) (xs (Int.toNat (s.1 + 6))) D1797) (fun r1840 D1840 =>
  (m_X11_thrown D1840).bind (fun r1846 =>
  gd (InR r1846 ∧ InR r1797) (if r1846 = r1797 then (
    gd (InR r1797) (if r1797 = 0 then (
      gd ((0 : Int) ≤ 0 ∧ 0 < (1 : Int)) (
      gd (InR r1840) (
      gd (InL (D1840.2 102 (Int.toNat 0)) ∧ InL r1840) (if (D1840.2 102 (Int.toNat 0)) = r1840 then (
        some (.inl ((s.1 + 7), D1840))
      ) else (
        done (some 0)
      ))
      ))
    ) else (
      some (.inl ((s.1 + 7), D1840))
    ))
  ) else (
    done (some 0)
  ))
  )))))))))))))))
noncomputable def m_L_c24 (xs : Nat → Int) (Ls : Nat) (s : Int × DT) : Option ((Int × DT) ⊕ Int) :=
  gd ((0 : Int) ≤ (s.1 + 1) ∧ (s.1 + 1) < (Ls : Int)) (
  gd ((0 : Int) ≤ (s.1 + 2) ∧ (s.1 + 2) < (Ls : Int)) (
  gd ((0 : Int) ≤ (s.1 + 3) ∧ (s.1 + 3) < (Ls : Int)) (
  gd ((0 : Int) ≤ (s.1 + 4) ∧ (s.1 + 4) < (Ls : Int)) (
  gd (InR (xs (Int.toNat (s.1 + 4)))) (if (xs (Int.toNat (s.1 + 4))) = 0 then (
    bnd (m_L_run (xs (Int.toNat (s.1 + 1))) (xs (Int.toNat (s.1 + 2))) (xs (Int.toNat (s.1 + 3))) 0 s.2) (fun r1910 D1910 =>
    gd ((0 : Int) ≤ (s.1 + 1) ∧ (s.1 + 1) < (Ls : Int)) (
    gd ((0 : Int) ≤ (s.1 + 2) ∧ (s.1 + 2) < (Ls : Int)) (
    gd ((0 : Int) ≤ (s.1 + 3) ∧ (s.1 + 3) < (Ls : Int)) (
    gd ((0 : Int) ≤ (s.1 + 4) ∧ (s.1 + 4) < (Ls : Int)) (
    gd (InR (xs (Int.toNat (s.1 + 4)))) (if (xs (Int.toNat (s.1 + 4))) = 0 then (
      bnd (m_X11_run (xs (Int.toNat (s.1 + 1))) (xs (Int.toNat (s.1 + 2))) (xs (Int.toNat (s.1 + 3))) 0 D1910) (fun r1948 D1948 =>
      (m_X11_thrown D1948).bind (fun r1954 =>
      gd (InR r1954 ∧ InR r1910) (if r1954 = r1910 then (
        gd (InR r1910) (if r1910 = 0 then (
          gd ((0 : Int) ≤ 0 ∧ 0 < (1 : Int)) (
          gd (InR r1948) (
          gd (InL (D1948.2 102 (Int.toNat 0)) ∧ InL r1948) (if (D1948.2 102 (Int.toNat 0)) = r1948 then (
            some (.inl ((s.1 + 7), D1948))
          ) else (
            done (some 0)
          ))
          ))
        ) else (
          some (.inl ((s.1 + 7), D1948))
        ))
      ) else (
        done (some 0)
      ))
      ))
    ) else (
      bnd (m_X11_run (xs (Int.toNat (s.1 + 1))) (xs (Int.toNat (s.1 + 2))) (xs (Int.toNat (s.1 + 3))) 1 D1910) (fun r1948 D1948 =>
      (m_X11_thrown D1948).bind (fun r1954 =>
      gd (InR r1954 ∧ InR r1910) (if r1954 = r1910 then (
        gd (InR r1910) (if r1910 = 0 then (
          gd ((0 : Int) ≤ 0 ∧ 0 < (1 : Int)) (
          gd (InR r1948) (
          gd (InL (D1948.2 102 (Int.toNat 0)) ∧ InL r1948) (if (D1948.2 102 (Int.toNat 0)) = r1948 then (
            some (.inl ((s.1 + 7), D1948))
          ) else (
            done (some 0)
          ))
          ))
        ) else (
          some (.inl ((s.1 + 7), D1948))
        ))
      ) else (
        done (some 0)
      ))
      ))
    ))
    )))))
  ) else (
    bnd (m_L_run (xs (Int.toNat (s.1 + 1))) (xs (Int.toNat (s.1 + 2))) (xs (Int.toNat (s.1 + 3))) 1 s.2) (fun r1910 D1910 =>
    gd ((0 : Int) ≤ (s.1 + 1) ∧ (s.1 + 1) < (Ls : Int)) (
    gd ((0 : Int) ≤ (s.1 + 2) ∧ (s.1 + 2) < (Ls : Int)) (
    gd ((0 : Int) ≤ (s.1 + 3) ∧ (s.1 + 3) < (Ls : Int)) (
    gd ((0 : Int) ≤ (s.1 + 4) ∧ (s.1 + 4) < (Ls : Int)) (
    gd (InR (xs (Int.toNat (s.1 + 4)))) (if (xs (Int.toNat (s.1 + 4))) = 0 then (
      bnd (m_X11_run (xs (Int.toNat (s.1 + 1))) (xs (Int.toNat (s.1 + 2))) (xs (Int.toNat (s.1 + 3))) 0 D1910) (fun r1948 D1948 =>
      (m_X11_thrown D1948).bind (fun r1954 =>
      gd (InR r1954 ∧ InR r1910) (if r1954 = r1910 then (
        gd (InR r1910) (if r1910 = 0 then (
          gd ((0 : Int) ≤ 0 ∧ 0 < (1 : Int)) (
          gd (InR r1948) (
          gd (InL (D1948.2 102 (Int.toNat 0)) ∧ InL r1948) (if (D1948.2 102 (Int.toNat 0)) = r1948 then (
            some (.inl ((s.1 + 7), D1948))
          ) else (
            done (some 0)
          ))
          ))
        ) else (
          some (.inl ((s.1 + 7), D1948))
        ))
      ) else (
        done (some 0)
      ))
      ))
    ) else (
      bnd (m_X11_run (xs (Int.toNat (s.1 + 1))) (xs (Int.toNat (s.1 + 2))) (xs (Int.toNat (s.1 + 3))) 1 D1910) (fun r1948 D1948 =>
      (m_X11_thrown D1948).bind (fun r1954 =>
      gd (InR r1954 ∧ InR r1910) (if r1954 = r1910 then (
        gd (InR r1910) (if r1910 = 0 then (
          gd ((0 : Int) ≤ 0 ∧ 0 < (1 : Int)) (
          gd (InR r1948) (
          gd (InL (D1948.2 102 (Int.toNat 0)) ∧ InL r1948) (if (D1948.2 102 (Int.toNat 0)) = r1948 then (
            some (.inl ((s.1 + 7), D1948))
          ) else (
            done (some 0)
          ))
          ))
        ) else (
          some (.inl ((s.1 + 7), D1948))
        ))
      ) else (
        done (some 0)
      ))
      ))
    ))
    )))))
  ))
  ))))
noncomputable def m_L_c25 (xs : Nat → Int) (Ls : Nat) (s : Int × DT) : Option ((Int × DT) ⊕ Int) :=
  gd ((0 : Int) ≤ (s.1 + 1) ∧ (s.1 + 1) < (Ls : Int)) (
  bnd (m_L_part (xs (Int.toNat (s.1 + 1))) s.2) (fun r1992 D1992 =>
  gd ((0 : Int) ≤ (s.1 + 1) ∧ (s.1 + 1) < (Ls : Int)) (
  bnd (m_X11_part (xs (Int.toNat (s.1 + 1))) D1992) (fun r2004 D2004 =>
  (m_X11_thrown D2004).bind (fun r2010 =>
  gd (InR r2010 ∧ InR r1992) (if r2010 = r1992 then (
    gd (InR r1992) (if r1992 = 0 then (
      gd ((0 : Int) ≤ 0 ∧ 0 < (1 : Int)) (
      gd (InR r2004) (
      gd (InL (D2004.2 102 (Int.toNat 0)) ∧ InL r2004) (if (D2004.2 102 (Int.toNat 0)) = r2004 then (
        some (.inl ((s.1 + 7), D2004))
      ) else (
        done (some 0)
      ))
      ))
    ) else (
      some (.inl ((s.1 + 7), D2004))
    ))
  ) else (
    done (some 0)
  ))
  )))))
noncomputable def m_L_c26 (xs : Nat → Int) (Ls : Nat) (s : Int × DT) : Option ((Int × DT) ⊕ Int) :=
  gd ((0 : Int) ≤ (s.1 + 1) ∧ (s.1 + 1) < (Ls : Int)) (
  gd ((0 : Int) ≤ (s.1 + 2) ∧ (s.1 + 2) < (Ls : Int)) (
  gd ((0 : Int) ≤ (s.1 + 3) ∧ (s.1 + 3) < (Ls : Int)) (
  gd ((0 : Int) ≤ (s.1 + 4) ∧ (s.1 + 4) < (Ls : Int)) (
  bnd (m_L_measure (xs (Int.toNat (s.1 + 1))) (xs (Int.toNat (s.1 + 2))) (xs (Int.toNat (s.1 + 3))) (xs (Int.toNat (s.1 + 4))) s.2) (fun r2066 D2066 =>
  gd ((0 : Int) ≤ (s.1 + 1) ∧ (s.1 + 1) < (Ls : Int)) (
  gd ((0 : Int) ≤ (s.1 + 2) ∧ (s.1 + 2) < (Ls : Int)) (
  gd ((0 : Int) ≤ (s.1 + 3) ∧ (s.1 + 3) < (Ls : Int)) (
  gd ((0 : Int) ≤ (s.1 + 4) ∧ (s.1 + 4) < (Ls : Int)) (
  bnd (m_X11_measure (xs (Int.toNat (s.1 + 1))) (xs (Int.toNat (s.1 + 2))) (xs (Int.toNat (s.1 + 3))) (xs (Int.toNat (s.1 + 4))) D2066) (fun r2096 D2096 =>
  (m_X11_thrown D2096).bind (fun r2102 =>
  gd (InR r2102 ∧ InR r2066) (if r2102 = r2066 then (
    gd (InR r2066) (if r2066 = 0 then (
      gd ((0 : Int) ≤ 0 ∧ 0 < (1 : Int)) (
      gd (InR r2096) (
      gd (InL (D2096.2 102 (Int.toNat 0)) ∧ InL r2096) (if (D2096.2 102 (Int.toNat 0)) = r2096 then (
        some (.inl ((s.1 + 7), D2096))
      ) else (
        done (some 0)
      ))
      ))
    ) else (
      some (.inl ((s.1 + 7), D2096))
    ))
  ) else (
    done (some 0)
  ))
  )))))))))))
noncomputable def m_L_c27 (xs : Nat → Int) (Ls : Nat) (s : Int × DT) : Option ((Int × DT) ⊕ Int) :=
  gd ((0 : Int) ≤ (s.1 + 1) ∧ (s.1 + 1) < (Ls : Int)) (
  gd ((0 : Int) ≤ (s.1 + 2) ∧ (s.1 + 2) < (Ls : Int)) (
  gd ((0 : Int) ≤ (s.1 + 3) ∧ (s.1 + 3) < (Ls : Int)) (
  bnd (m_L_best (xs (Int.toNat (s.1 + 1))) (xs (Int.toNat (s.1 + 2))) (xs (Int.toNat (s.1 + 3))) s.2) (fun r2152 D2152 =>
  gd ((0 : Int) ≤ (s.1 + 1) ∧ (s.1 + 1) < (Ls : Int)) (
  gd ((0 : Int) ≤ (s.1 + 2) ∧ (s.1 + 2) < (Ls : Int)) (
  gd ((0 : Int) ≤ (s.1 + 3) ∧ (s.1 + 3) < (Ls : Int)) (
  bnd (m_X11_best (xs (Int.toNat (s.1 + 1))) (xs (Int.toNat (s.1 + 2))) (xs (Int.toNat (s.1 + 3))) D2152) (fun r2176 D2176 =>
  (m_X11_thrown D2176).bind (fun r2182 =>
  gd (InR r2182 ∧ InR r2152) (if r2182 = r2152 then (
    gd (InR r2152) (if r2152 = 0 then (
      gd ((0 : Int) ≤ 0 ∧ 0 < (1 : Int)) (
      gd (InR r2176) (
      gd (InL (D2176.2 102 (Int.toNat 0)) ∧ InL r2176) (if (D2176.2 102 (Int.toNat 0)) = r2176 then (
        some (.inl ((s.1 + 7), D2176))
      ) else (
        done (some 0)
      ))
      ))
    ) else (
      some (.inl ((s.1 + 7), D2176))
    ))
  ) else (
    done (some 0)
  ))
  )))))))))
noncomputable def m_L_c28 (xs : Nat → Int) (Ls : Nat) (s : Int × DT) : Option ((Int × DT) ⊕ Int) :=
  gd ((0 : Int) ≤ (s.1 + 1) ∧ (s.1 + 1) < (Ls : Int)) (
  gd ((0 : Int) ≤ (s.1 + 2) ∧ (s.1 + 2) < (Ls : Int)) (
  bnd (m_L_nearest (xs (Int.toNat (s.1 + 1))) (xs (Int.toNat (s.1 + 2))) s.2) (fun r2226 D2226 =>
  gd ((0 : Int) ≤ (s.1 + 1) ∧ (s.1 + 1) < (Ls : Int)) (
  gd ((0 : Int) ≤ (s.1 + 2) ∧ (s.1 + 2) < (Ls : Int)) (
  bnd (m_X11_nearest (xs (Int.toNat (s.1 + 1))) (xs (Int.toNat (s.1 + 2))) D2226) (fun r2244 D2244 =>
  (m_X11_thrown D2244).bind (fun r2250 =>
  gd (InR r2250 ∧ InR r2226) (if r2250 = r2226 then (
    gd (InR r2226) (if r2226 = 0 then (
      gd ((0 : Int) ≤ 0 ∧ 0 < (1 : Int)) (
      gd (InR r2244) (
      gd (InL (D2244.2 102 (Int.toNat 0)) ∧ InL r2244) (if (D2244.2 102 (Int.toNat 0)) = r2244 then (
        some (.inl ((s.1 + 7), D2244))
      ) else (
        done (some 0)
      ))
      ))
    ) else (
      some (.inl ((s.1 + 7), D2244))
    ))
  ) else (
    done (some 0)
  ))
  )))))))
noncomputable def m_L_c29 (xs : Nat → Int) (Ls : Nat) (s : Int × DT) : Option ((Int × DT) ⊕ Int) :=
  gd ((0 : Int) ≤ (s.1 + 1) ∧ (s.1 + 1) < (Ls : Int)) (
  gd ((0 : Int) ≤ (s.1 + 2) ∧ (s.1 + 2) < (Ls : Int)) (
  bnd (m_L_served (xs (Int.toNat (s.1 + 1))) (xs (Int.toNat (s.1 + 2))) s.2) (fun r2294 D2294 =>
  gd ((0 : Int) ≤ (s.1 + 1) ∧ (s.1 + 1) < (Ls : Int)) (
  gd ((0 : Int) ≤ (s.1 + 2) ∧ (s.1 + 2) < (Ls : Int)) (
  bnd (m_X11_served (xs (Int.toNat (s.1 + 1))) (xs (Int.toNat (s.1 + 2))) D2294) (fun r2312 D2312 =>
  (m_X11_thrown D2312).bind (fun r2318 =>
  gd (InR r2318 ∧ InR r2294) (if r2318 = r2294 then (
    gd (InR r2294) (if r2294 = 0 then (
      gd ((0 : Int) ≤ 0 ∧ 0 < (1 : Int)) (
      gd (InR r2312) (
      gd (InL (D2312.2 102 (Int.toNat 0)) ∧ InL r2312) (if (D2312.2 102 (Int.toNat 0)) = r2312 then (
        some (.inl ((s.1 + 7), D2312))
      ) else (
        done (some 0)
      ))
      ))
    ) else (
      some (.inl ((s.1 + 7), D2312))
    ))
  ) else (
    done (some 0)
  ))
  )))))))
noncomputable def m_L_c30 (xs : Nat → Int) (Ls : Nat) (s : Int × DT) : Option ((Int × DT) ⊕ Int) :=
  gd ((0 : Int) ≤ (s.1 + 1) ∧ (s.1 + 1) < (Ls : Int)) (
  gd ((0 : Int) ≤ (s.1 + 2) ∧ (s.1 + 2) < (Ls : Int)) (
  gd ((0 : Int) ≤ (s.1 + 3) ∧ (s.1 + 3) < (Ls : Int)) (
  bnd (m_L_thinned (xs (Int.toNat (s.1 + 1))) (xs (Int.toNat (s.1 + 2))) (xs (Int.toNat (s.1 + 3))) s.2) (fun r2368 D2368 =>
  gd ((0 : Int) ≤ (s.1 + 1) ∧ (s.1 + 1) < (Ls : Int)) (
  gd ((0 : Int) ≤ (s.1 + 2) ∧ (s.1 + 2) < (Ls : Int)) (
  gd ((0 : Int) ≤ (s.1 + 3) ∧ (s.1 + 3) < (Ls : Int)) (
  bnd (m_X11_thinned (xs (Int.toNat (s.1 + 1))) (xs (Int.toNat (s.1 + 2))) (xs (Int.toNat (s.1 + 3))) D2368) (fun r2392 D2392 =>
  (m_X11_thrown D2392).bind (fun r2398 =>
  gd (InR r2398 ∧ InR r2368) (if r2398 = r2368 then (
    gd (InR r2368) (if r2368 = 0 then (
      gd ((0 : Int) ≤ 0 ∧ 0 < (1 : Int)) (
      gd (InR r2392) (
      gd (InL (D2392.2 102 (Int.toNat 0)) ∧ InL r2392) (if (D2392.2 102 (Int.toNat 0)) = r2392 then (
        some (.inl ((s.1 + 7), D2392))
      ) else (
        done (some 0)
      ))
      ))
    ) else (
      some (.inl ((s.1 + 7), D2392))
    ))
  ) else (
    done (some 0)
  ))
  )))))))))
noncomputable def m_L_c31 (xs : Nat → Int) (Ls : Nat) (s : Int × DT) : Option ((Int × DT) ⊕ Int) :=
  gd ((0 : Int) ≤ (s.1 + 1) ∧ (s.1 + 1) < (Ls : Int)) (
  gd ((0 : Int) ≤ (s.1 + 2) ∧ (s.1 + 2) < (Ls : Int)) (
  bnd (m_L_tour (xs (Int.toNat (s.1 + 1))) (xs (Int.toNat (s.1 + 2))) s.2) (fun r2442 D2442 =>
  gd ((0 : Int) ≤ (s.1 + 1) ∧ (s.1 + 1) < (Ls : Int)) (
  gd ((0 : Int) ≤ (s.1 + 2) ∧ (s.1 + 2) < (Ls : Int)) (
  bnd (m_X11_tour (xs (Int.toNat (s.1 + 1))) (xs (Int.toNat (s.1 + 2))) D2442) (fun r2460 D2460 =>
  (m_X11_thrown D2460).bind (fun r2466 =>
  gd (InR r2466 ∧ InR r2442) (if r2466 = r2442 then (
    gd (InR r2442) (if r2442 = 0 then (
      gd ((0 : Int) ≤ 0 ∧ 0 < (1 : Int)) (
      gd (InR r2460) (
      gd (InL (D2460.2 102 (Int.toNat 0)) ∧ InL r2460) (if (D2460.2 102 (Int.toNat 0)) = r2460 then (
        some (.inl ((s.1 + 7), D2460))
      ) else (
        done (some 0)
      ))
      ))
    ) else (
      some (.inl ((s.1 + 7), D2460))
    ))
  ) else (
    done (some 0)
  ))
  )))))))
noncomputable def m_L_c32 (xs : Nat → Int) (Ls : Nat) (s : Int × DT) : Option ((Int × DT) ⊕ Int) :=
  gd ((0 : Int) ≤ (s.1 + 1) ∧ (s.1 + 1) < (Ls : Int)) (
  bnd (m_L_way (xs (Int.toNat (s.1 + 1))) s.2) (fun r2504 D2504 =>
  gd ((0 : Int) ≤ (s.1 + 1) ∧ (s.1 + 1) < (Ls : Int)) (
  bnd (m_X11_way (xs (Int.toNat (s.1 + 1))) D2504) (fun r2516 D2516 =>
  (m_X11_thrown D2516).bind (fun r2522 =>
  gd (InR r2522 ∧ InR r2504) (if r2522 = r2504 then (
    gd (InR r2504) (if r2504 = 0 then (
      gd ((0 : Int) ≤ 0 ∧ 0 < (1 : Int)) (
      gd (InR r2516) (
      gd (InL (D2516.2 102 (Int.toNat 0)) ∧ InL r2516) (if (D2516.2 102 (Int.toNat 0)) = r2516 then (
        some (.inl ((s.1 + 7), D2516))
      ) else (
        done (some 0)
      ))
      ))
    ) else (
      some (.inl ((s.1 + 7), D2516))
    ))
  ) else (
    done (some 0)
  ))
  )))))
noncomputable def m_L_c33 (xs : Nat → Int) (Ls : Nat) (s : Int × DT) : Option ((Int × DT) ⊕ Int) :=
  gd ((0 : Int) ≤ (s.1 + 1) ∧ (s.1 + 1) < (Ls : Int)) (
  gd ((0 : Int) ≤ (s.1 + 2) ∧ (s.1 + 2) < (Ls : Int)) (
  bnd (m_L_hull (xs (Int.toNat (s.1 + 1))) (xs (Int.toNat (s.1 + 2))) s.2) (fun r2566 D2566 =>
  gd ((0 : Int) ≤ (s.1 + 1) ∧ (s.1 + 1) < (Ls : Int)) (
  gd ((0 : Int) ≤ (s.1 + 2) ∧ (s.1 + 2) < (Ls : Int)) (
  bnd (m_X11_hull (xs (Int.toNat (s.1 + 1))) (xs (Int.toNat (s.1 + 2))) D2566) (fun r2584 D2584 =>
  (m_X11_thrown D2584).bind (fun r2590 =>
  gd (InR r2590 ∧ InR r2566) (if r2590 = r2566 then (
    gd (InR r2566) (if r2566 = 0 then (
      gd ((0 : Int) ≤ 0 ∧ 0 < (1 : Int)) (
      gd (InR r2584) (
      gd (InL (D2584.2 102 (Int.toNat 0)) ∧ InL r2584) (if (D2584.2 102 (Int.toNat 0)) = r2584 then (
        some (.inl ((s.1 + 7), D2584))
      ) else (
        done (some 0)
      ))
      ))
    ) else (
      some (.inl ((s.1 + 7), D2584))
    ))
  ) else (
    done (some 0)
  ))
  )))))))
noncomputable def m_L_c34 (xs : Nat → Int) (Ls : Nat) (s : Int × DT) : Option ((Int × DT) ⊕ Int) :=
  gd ((0 : Int) ≤ (s.1 + 1) ∧ (s.1 + 1) < (Ls : Int)) (
  bnd (m_L_area (xs (Int.toNat (s.1 + 1))) s.2) (fun r2628 D2628 =>
  gd ((0 : Int) ≤ (s.1 + 1) ∧ (s.1 + 1) < (Ls : Int)) (
  bnd (m_X11_area (xs (Int.toNat (s.1 + 1))) D2628) (fun r2640 D2640 =>
  (m_X11_thrown D2640).bind (fun r2646 =>
  gd (InR r2646 ∧ InR r2628) (if r2646 = r2628 then (
    gd (InR r2628) (if r2628 = 0 then (
      gd ((0 : Int) ≤ 0 ∧ 0 < (1 : Int)) (
      gd (InR r2640) (
      gd (InL (D2640.2 102 (Int.toNat 0)) ∧ InL r2640) (if (D2640.2 102 (Int.toNat 0)) = r2640 then (
        some (.inl ((s.1 + 7), D2640))
      ) else (
        done (some 0)
      ))
      ))
    ) else (
      some (.inl ((s.1 + 7), D2640))
    ))
  ) else (
    done (some 0)
  ))
  )))))
noncomputable def m_L_c35 (xs : Nat → Int) (Ls : Nat) (s : Int × DT) : Option ((Int × DT) ⊕ Int) :=
  gd ((0 : Int) ≤ (s.1 + 1) ∧ (s.1 + 1) < (Ls : Int)) (
  gd ((0 : Int) ≤ (s.1 + 2) ∧ (s.1 + 2) < (Ls : Int)) (
  bnd (m_L_middle (xs (Int.toNat (s.1 + 1))) (xs (Int.toNat (s.1 + 2))) s.2) (fun r2690 D2690 =>
  gd ((0 : Int) ≤ (s.1 + 1) ∧ (s.1 + 1) < (Ls : Int)) (
  gd ((0 : Int) ≤ (s.1 + 2) ∧ (s.1 + 2) < (Ls : Int)) (
  bnd (m_X11_middle (xs (Int.toNat (s.1 + 1))) (xs (Int.toNat (s.1 + 2))) D2690) (fun r2708 D2708 =>
  (m_X11_thrown D2708).bind (fun r2714 =>
  gd (InR r2714 ∧ InR r2690) (if r2714 = r2690 then (
    gd (InR r2690) (if r2690 = 0 then (
      gd ((0 : Int) ≤ 0 ∧ 0 < (1 : Int)) (
      gd (InR r2708) (
      gd (InL (D2708.2 102 (Int.toNat 0)) ∧ InL r2708) (if (D2708.2 102 (Int.toNat 0)) = r2708 then (
        some (.inl ((s.1 + 7), D2708))
      ) else (
        done (some 0)
      ))
      ))
    ) else (
      some (.inl ((s.1 + 7), D2708))
    ))
  ) else (
    done (some 0)
  ))
  )))))))
noncomputable def m_L_c36 (xs : Nat → Int) (Ls : Nat) (s : Int × DT) : Option ((Int × DT) ⊕ Int) :=
  gd ((0 : Int) ≤ (s.1 + 1) ∧ (s.1 + 1) < (Ls : Int)) (
  gd (InR (xs (Int.toNat (s.1 + 1)))) (if (xs (Int.toNat (s.1 + 1))) = 0 then (
    gd ((0 : Int) ≤ (s.1 + 2) ∧ (s.1 + 2) < (Ls : Int)) (
    gd ((0 : Int) ≤ (s.1 + 3) ∧ (s.1 + 3) < (Ls : Int)) (
    bnd (m_L_line 0 (xs (Int.toNat (s.1 + 2))) (xs (Int.toNat (s.1 + 3))) s.2) (fun r2772 D2772 =>
    gd ((0 : Int) ≤ (s.1 + 1) ∧ (s.1 + 1) < (Ls : Int)) (
    gd (InR (xs (Int.toNat (s.1 + 1)))) (if (xs (Int.toNat (s.1 + 1))) = 0 then (
      gd ((0 : Int) ≤ (s.1 + 2) ∧ (s.1 + 2) < (Ls : Int)) (
      gd ((0 : Int) ≤ (s.1 + 3) ∧ (s.1 + 3) < (Ls : Int)) (
      bnd (m_X11_line_ 0 (xs (Int.toNat (s.1 + 2))) (xs (Int.toNat (s.1 + 3))) D2772) (fun r2804 D2804 =>
      (m_X11_thrown D2804).bind (fun r2810 =>
      gd (InR r2810 ∧ InR r2772) (if r2810 = r2772 then (
        gd (InR r2772) (if r2772 = 0 then (
          gd ((0 : Int) ≤ 0 ∧ 0 < (1 : Int)) (
          gd (InR r2804) (
          gd (InL (D2804.2 102 (Int.toNat 0)) ∧ InL r2804) (if (D2804.2 102 (Int.toNat 0)) = r2804 then (
            some (.inl ((s.1 + 7), D2804))
          ) else (
            done (some 0)
          ))
          ))
        ) else (
          some (.inl ((s.1 + 7), D2804))
        ))
      ) else (
        done (some 0)
      ))
      ))))
    ) else (
      gd ((0 : Int) ≤ (s.1 + 2) ∧ (s.1 + 2) < (Ls : Int)) (
      gd ((0 : Int) ≤ (s.1 + 3) ∧ (s.1 + 3) < (Ls : Int)) (
      bnd (m_X11_line_ 1 (xs (Int.toNat (s.1 + 2))) (xs (Int.toNat (s.1 + 3))) D2772) (fun r2804 D2804 =>
      (m_X11_thrown D2804).bind (fun r2810 =>
      gd (InR r2810 ∧ InR r2772) (if r2810 = r2772 then (
        gd (InR r2772) (if r2772 = 0 then (
          gd ((0 : Int) ≤ 0 ∧ 0 < (1 : Int)) (
          gd (InR r2804) (
          gd (InL (D2804.2 102 (Int.toNat 0)) ∧ InL r2804) (if (D2804.2 102 (Int.toNat 0)) = r2804 then (
            some (.inl ((s.1 + 7), D2804))
          ) else (
            done (some 0)
          ))
          ))
        ) else (
          some (.inl ((s.1 + 7), D2804))
        ))
      ) else (
        done (some 0)
      ))
      ))))
    ))
    ))))
  ) else (
    gd ((0 : Int) ≤ (s.1 + 2) ∧ (s.1 + 2) < (Ls : Int)) (
    gd ((0 : Int) ≤ (s.1 + 3) ∧ (s.1 + 3) < (Ls : Int)) (
    bnd (m_L_line 1 (xs (Int.toNat (s.1 + 2))) (xs (Int.toNat (s.1 + 3))) s.2) (fun r2772 D2772 =>
    gd ((0 : Int) ≤ (s.1 + 1) ∧ (s.1 + 1) < (Ls : Int)) (
    gd (InR (xs (Int.toNat (s.1 + 1)))) (if (xs (Int.toNat (s.1 + 1))) = 0 then (
      gd ((0 : Int) ≤ (s.1 + 2) ∧ (s.1 + 2) < (Ls : Int)) (
      gd ((0 : Int) ≤ (s.1 + 3) ∧ (s.1 + 3) < (Ls : Int)) (
      bnd (m_X11_line_ 0 (xs (Int.toNat (s.1 + 2))) (xs (Int.toNat (s.1 + 3))) D2772) (fun r2804 D2804 =>
      (m_X11_thrown D2804).bind (fun r2810 =>
      gd (InR r2810 ∧ InR r2772) (if r2810 = r2772 then (
        gd (InR r2772) (if r2772 = 0 then (
          gd ((0 : Int) ≤ 0 ∧ 0 < (1 : Int)) (
          gd (InR r2804) (
          gd (InL (D2804.2 102 (Int.toNat 0)) ∧ InL r2804) (if (D2804.2 102 (Int.toNat 0)) = r2804 then (
            some (.inl ((s.1 + 7), D2804))
          ) else (
            done (some 0)
          ))
          ))
        ) else (
          some (.inl ((s.1 + 7), D2804))
        ))
      ) else (
        done (some 0)
      ))
      ))))
    ) else (
      gd ((0 : Int) ≤ (s.1 + 2) ∧ (s.1 + 2) < (Ls : Int)) (
      gd ((0 : Int) ≤ (s.1 + 3) ∧ (s.1 + 3) < (Ls : Int)) (
      bnd (m_X11_line_ 1 (xs (Int.toNat (s.1 + 2))) (xs (Int.toNat (s.1 + 3))) D2772) (fun r2804 D2804 =>
      (m_X11_thrown D2804).bind (fun r2810 =>
      gd (InR r2810 ∧ InR r2772) (if r2810 = r2772 then (
        gd (InR r2772) (if r2772 = 0 then (
          gd ((0 : Int) ≤ 0 ∧ 0 < (1 : Int)) (
          gd (InR r2804) (
          gd (InL (D2804.2 102 (Int.toNat 0)) ∧ InL r2804) (if (D2804.2 102 (Int.toNat 0)) = r2804 then (
            some (.inl ((s.1 + 7), D2804))
          ) else (
            done (some 0)
          ))
          ))
        ) else (
          some (.inl ((s.1 + 7), D2804))
        ))
      ) else (
        done (some 0)
      ))
      ))))
    ))
    ))))
  ))
  )
noncomputable def m_L_c37 (xs : Nat → Int) (Ls : Nat) (s : Int × DT) : Option ((Int × DT) ⊕ Int) :=
  gd ((0 : Int) ≤ (s.1 + 1) ∧ (s.1 + 1) < (Ls : Int)) (
  gd ((0 : Int) ≤ (s.1 + 2) ∧ (s.1 + 2) < (Ls : Int)) (
  gd ((0 : Int) ≤ (s.1 + 3) ∧ (s.1 + 3) < (Ls : Int)) (
  bnd (m_L_joined (xs (Int.toNat (s.1 + 1))) (xs (Int.toNat (s.1 + 2))) (xs (Int.toNat (s.1 + 3))) s.2) (fun r2860 D2860 =>
  gd ((0 : Int) ≤ (s.1 + 1) ∧ (s.1 + 1) < (Ls : Int)) (
  gd ((0 : Int) ≤ (s.1 + 2) ∧ (s.1 + 2) < (Ls : Int)) (
  gd ((0 : Int) ≤ (s.1 + 3) ∧ (s.1 + 3) < (Ls : Int)) (
  bnd (m_X11_joined (xs (Int.toNat (s.1 + 1))) (xs (Int.toNat (s.1 + 2))) (xs (Int.toNat (s.1 + 3))) D2860) (fun r2884 D2884 =>
  (m_X11_thrown D2884).bind (fun r2890 =>
  gd (InR r2890 ∧ InR r2860) (if r2890 = r2860 then (
    gd (InR r2860) (if r2860 = 0 then (
      gd ((0 : Int) ≤ 0 ∧ 0 < (1 : Int)) (
      gd (InR r2884) (
      gd (InL (D2884.2 102 (Int.toNat 0)) ∧ InL r2884) (if (D2884.2 102 (Int.toNat 0)) = r2884 then (
        some (.inl ((s.1 + 7), D2884))
      ) else (
        done (some 0)
      ))
      ))
    ) else (
      some (.inl ((s.1 + 7), D2884))
    ))
  ) else (
    done (some 0)
  ))
  )))))))))
noncomputable def m_L_c38 (xs : Nat → Int) (Ls : Nat) (s : Int × DT) : Option ((Int × DT) ⊕ Int) :=
  gd ((0 : Int) ≤ (s.1 + 1) ∧ (s.1 + 1) < (Ls : Int)) (
  bnd (m_X10_fits (xs (Int.toNat (s.1 + 1))) s.2) (fun r2927 D2927 =>
  gd ((0 : Int) ≤ (s.1 + 1) ∧ (s.1 + 1) < (Ls : Int)) (
  bnd (m_X11_fits (xs (Int.toNat (s.1 + 1))) D2927) (fun r2937 D2937 =>
  gd (InR r2927 ∧ InR r2937) (if r2927 = r2937 then (
    some (.inl ((s.1 + 7), D2937))
  ) else (
    done (some 0)
  ))
  ))))
noncomputable def m_L_c39 (xs : Nat → Int) (Ls : Nat) (s : Int × DT) : Option ((Int × DT) ⊕ Int) :=
  gd ((0 : Int) ≤ (s.1 + 1) ∧ (s.1 + 1) < (Ls : Int)) (
  bnd (m_X10_scale (xs (Int.toNat (s.1 + 1))) s.2) (fun r2952 D2952 =>
  gd ((0 : Int) ≤ (s.1 + 1) ∧ (s.1 + 1) < (Ls : Int)) (
  bnd (m_X11_scale (xs (Int.toNat (s.1 + 1))) D2952) (fun r2962 D2962 =>
  gd (InR r2952 ∧ InR r2962) (if r2952 = r2962 then (
    some (.inl ((s.1 + 7), D2962))
  ) else (
    done (some 0)
  ))
  ))))
noncomputable def m_L_c40 (xs : Nat → Int) (Ls : Nat) (s : Int × DT) : Option ((Int × DT) ⊕ Int) :=
  gd ((0 : Int) ≤ (s.1 + 1) ∧ (s.1 + 1) < (Ls : Int)) (
  bnd (m_L_write (xs (Int.toNat (s.1 + 1))) s.2) (fun r2978 D2978 =>
  gd ((0 : Int) ≤ (s.1 + 1) ∧ (s.1 + 1) < (Ls : Int)) (
  bnd (m_X11_write (xs (Int.toNat (s.1 + 1))) D2978) (fun r2990 D2990 =>
  (m_X11_thrown D2990).bind (fun r2996 =>
  gd (InR r2996 ∧ InR r2978) (if r2996 = r2978 then (
    gd (InR r2978) (if r2978 = 0 then (
      gd ((0 : Int) ≤ 0 ∧ 0 < (1 : Int)) (
      gd (InR r2990) (
      gd (InL (D2990.2 102 (Int.toNat 0)) ∧ InL r2990) (if (D2990.2 102 (Int.toNat 0)) = r2990 then (
        some (.inl ((s.1 + 7), D2990))
      ) else (
        done (some 0)
      ))
      ))
    ) else (
      some (.inl ((s.1 + 7), D2990))
    ))
  ) else (
    done (some 0)
  ))
  )))))
noncomputable def m_L_c41 (xs : Nat → Int) (Ls : Nat) (s : Int × DT) : Option ((Int × DT) ⊕ Int) :=
  gd ((0 : Int) ≤ (s.1 + 1) ∧ (s.1 + 1) < (Ls : Int)) (
  (m_X10_octet (xs (Int.toNat (s.1 + 1))) s.2).bind (fun r3033 =>
  gd ((0 : Int) ≤ (s.1 + 1) ∧ (s.1 + 1) < (Ls : Int)) (
  bnd (m_X11_octet (xs (Int.toNat (s.1 + 1))) s.2) (fun r3043 D3043 =>
  gd (InR r3033 ∧ InR r3043) (if r3033 = r3043 then (
    some (.inl ((s.1 + 7), D3043))
  ) else (
    done (some 0)
  ))
  ))))
noncomputable def m_L_c42 (xs : Nat → Int) (Ls : Nat) (s : Int × DT) : Option ((Int × DT) ⊕ Int) :=
  gd ((0 : Int) ≤ (s.1 + 1) ∧ (s.1 + 1) < (Ls : Int)) (
  (m_X10_count (xs (Int.toNat (s.1 + 1))) s.2).bind (fun r3058 =>
  gd ((0 : Int) ≤ (s.1 + 1) ∧ (s.1 + 1) < (Ls : Int)) (
  bnd (m_X11_count (xs (Int.toNat (s.1 + 1))) s.2) (fun r3068 D3068 =>
  gd (InR r3058 ∧ InR r3068) (if r3058 = r3068 then (
    some (.inl ((s.1 + 7), D3068))
  ) else (
    done (some 0)
  ))
  ))))
noncomputable def m_L_loop (xs : Nat → Int) (Ls : Nat) (s : Int × DT) : Option Int := loopF (fun s =>
  gd (0 ≤ s.1 ∧ s.1 ≤ 3584) (
  gd (InR s.1 ∧ InR ((Ls : Int) - 7)) (if s.1 ≤ ((Ls : Int) - 7) then (
    gd ((0 : Int) ≤ s.1 ∧ s.1 < (Ls : Int)) (
    gd (InR (andI (xs (Int.toNat s.1)) 63)) (if 0 ≤ (andI (xs (Int.toNat s.1)) 63) ∧ (andI (xs (Int.toNat s.1)) 63) ≤ 42 then (
    if (andI (xs (Int.toNat s.1)) 63) = 0 then (
      m_L_c0 xs Ls s
    ) else 
    if (andI (xs (Int.toNat s.1)) 63) = 1 then (
      m_L_c1 xs Ls s
    ) else 
    if (andI (xs (Int.toNat s.1)) 63) = 2 then (
      m_L_c2 xs Ls s
    ) else 
    if (andI (xs (Int.toNat s.1)) 63) = 3 then (
      m_L_c3 xs Ls s
    ) else 
    if (andI (xs (Int.toNat s.1)) 63) = 4 then (
      m_L_c4 xs Ls s
    ) else 
    if (andI (xs (Int.toNat s.1)) 63) = 5 then (
      m_L_c5 xs Ls s
    ) else 
    if (andI (xs (Int.toNat s.1)) 63) = 6 then (
      m_L_c6 xs Ls s
    ) else 
    if (andI (xs (Int.toNat s.1)) 63) = 7 then (
      m_L_c7 xs Ls s
    ) else 
    if (andI (xs (Int.toNat s.1)) 63) = 8 then (
      m_L_c8 xs Ls s
    ) else 
    if (andI (xs (Int.toNat s.1)) 63) = 9 then (
      m_L_c9 xs Ls s
    ) else 
    if (andI (xs (Int.toNat s.1)) 63) = 10 then (
      m_L_c10 xs Ls s
    ) else 
    if (andI (xs (Int.toNat s.1)) 63) = 11 then (
      m_L_c11 xs Ls s
    ) else 
    if (andI (xs (Int.toNat s.1)) 63) = 12 then (
      m_L_c12 xs Ls s
    ) else 
    if (andI (xs (Int.toNat s.1)) 63) = 13 then (
      m_L_c13 xs Ls s
    ) else 
    if (andI (xs (Int.toNat s.1)) 63) = 14 then (
      m_L_c14 xs Ls s
    ) else 
    if (andI (xs (Int.toNat s.1)) 63) = 15 then (
      m_L_c15 xs Ls s
    ) else 
    if (andI (xs (Int.toNat s.1)) 63) = 16 then (
      m_L_c16 xs Ls s
    ) else 
    if (andI (xs (Int.toNat s.1)) 63) = 17 then (
      m_L_c17 xs Ls s
    ) else 
    if (andI (xs (Int.toNat s.1)) 63) = 18 then (
      m_L_c18 xs Ls s
    ) else 
    if (andI (xs (Int.toNat s.1)) 63) = 19 then (
      m_L_c19 xs Ls s
    ) else 
    if (andI (xs (Int.toNat s.1)) 63) = 20 then (
      m_L_c20 xs Ls s
    ) else 
    if (andI (xs (Int.toNat s.1)) 63) = 21 then (
      m_L_c21 xs Ls s
    ) else 
    if (andI (xs (Int.toNat s.1)) 63) = 22 then (
      m_L_c22 xs Ls s
    ) else 
    if (andI (xs (Int.toNat s.1)) 63) = 23 then (
      m_L_c23 xs Ls s
    ) else 
    if (andI (xs (Int.toNat s.1)) 63) = 24 then (
      m_L_c24 xs Ls s
    ) else 
    if (andI (xs (Int.toNat s.1)) 63) = 25 then (
      m_L_c25 xs Ls s
    ) else 
    if (andI (xs (Int.toNat s.1)) 63) = 26 then (
      m_L_c26 xs Ls s
    ) else 
    if (andI (xs (Int.toNat s.1)) 63) = 27 then (
      m_L_c27 xs Ls s
    ) else 
    if (andI (xs (Int.toNat s.1)) 63) = 28 then (
      m_L_c28 xs Ls s
    ) else 
    if (andI (xs (Int.toNat s.1)) 63) = 29 then (
      m_L_c29 xs Ls s
    ) else 
    if (andI (xs (Int.toNat s.1)) 63) = 30 then (
      m_L_c30 xs Ls s
    ) else 
    if (andI (xs (Int.toNat s.1)) 63) = 31 then (
      m_L_c31 xs Ls s
    ) else 
    if (andI (xs (Int.toNat s.1)) 63) = 32 then (
      m_L_c32 xs Ls s
    ) else 
    if (andI (xs (Int.toNat s.1)) 63) = 33 then (
      m_L_c33 xs Ls s
    ) else 
    if (andI (xs (Int.toNat s.1)) 63) = 34 then (
      m_L_c34 xs Ls s
    ) else 
    if (andI (xs (Int.toNat s.1)) 63) = 35 then (
      m_L_c35 xs Ls s
    ) else 
    if (andI (xs (Int.toNat s.1)) 63) = 36 then (
      m_L_c36 xs Ls s
    ) else 
    if (andI (xs (Int.toNat s.1)) 63) = 37 then (
      m_L_c37 xs Ls s
    ) else 
    if (andI (xs (Int.toNat s.1)) 63) = 38 then (
      m_L_c38 xs Ls s
    ) else 
    if (andI (xs (Int.toNat s.1)) 63) = 39 then (
      m_L_c39 xs Ls s
    ) else 
    if (andI (xs (Int.toNat s.1)) 63) = 40 then (
      m_L_c40 xs Ls s
    ) else 
    if (andI (xs (Int.toNat s.1)) 63) = 41 then (
      m_L_c41 xs Ls s
    ) else 
    if (andI (xs (Int.toNat s.1)) 63) = 42 then (
      m_L_c42 xs Ls s
    ) else 
    none) else (
    some (.inl ((s.1 + 7), s.2))
    ))
    )
  ) else (
    done (
    some 1
    )
  )))) s
set_option maxRecDepth 100000 in
set_option maxHeartbeats 4000000 in
theorem x_L_c0 {l : Launch} {g : GH} (hG : G0 l g) (hL : g.2.2.2.2.2.1 ≤ 3584) {n : Nat} {s : Int × DT} (hI : 0 ≤ s.1 ∧ s.1 ≤ 3584) (h : ok (m_L_c0 (xsG g) g.2.2.2.2.2.1 s) (KL (P_L l g) K1)) : Px (E_L l g) 228 [some (.ref g.2.2.2.2.1), some (vR g 0), some (vR g 73), some (vR g 102), some (vI s.1), none, none] [] (LF n) s.2 (cuF s.1 + 0) (suF s.1 + 0) := by
  refine p_aload_n dL_law_228 rfl ?_
  refine p_aload_n dL_law_229 rfl ?_
  refine p_iload dL_law_230 rfl ?_
  refine p_iconst dL_law_232 ?_
  refine p_iadd dL_law_233 ?_
  refine q_sld hL dL_law_234 h (fun h => ?_)
  refine p_aload_n dL_law_235 rfl ?_
  refine p_iload dL_law_236 rfl ?_
  refine p_iconst dL_law_238 ?_
  refine p_iadd dL_law_239 ?_
  refine q_sld hL dL_law_240 h (fun h => ?_)
  refine p_aload_n dL_law_241 rfl ?_
  refine p_iload dL_law_242 rfl ?_
  refine p_iconst dL_law_244 ?_
  refine p_iadd dL_law_245 ?_
  refine q_sld hL dL_law_246 h (fun h => ?_)
  refine p_aload_n dL_law_247 rfl ?_
  refine p_iload dL_law_248 rfl ?_
  refine p_iconst dL_law_250 ?_
  refine p_iadd dL_law_251 ?_
  refine q_sld hL dL_law_252 h (fun h => ?_)
  refine p_aload_n dL_law_253 rfl ?_
  refine p_iload dL_law_254 rfl ?_
  refine p_iconst dL_law_256 ?_
  refine p_iadd dL_law_257 ?_
  refine q_sld hL dL_law_258 h (fun h => ?_)
  refine cV_Iw [vI (xsG g (Int.toNat (s.1 + 1))), vI (xsG g (Int.toNat (s.1 + 2))), vI (xsG g (Int.toNat (s.1 + 3))), vI (xsG g (Int.toNat (s.1 + 4))), vI (xsG g (Int.toNat (s.1 + 5)))] [] dL_law_259 yv_X10_feed ml_L_137 (r := (RX10, TX10, 7)) rfl rfl (Nat.le_of_ble_eq_true rfl) rfl (Nat.le_of_ble_eq_true rfl) (cuL (x := 0) hI (by decide)) (suL (x := 0) hI (by decide)) rfl h (fun K h => s_X10_feed hG h) (fun r259 D259 h => ?_)
  refine p_aload_n dL_law_262 rfl ?_
  refine p_aload_n dL_law_263 rfl ?_
  refine p_iload dL_law_264 rfl ?_
  refine p_iconst dL_law_266 ?_
  refine p_iadd dL_law_267 ?_
  refine q_sld hL dL_law_268 h (fun h => ?_)
  refine p_aload_n dL_law_269 rfl ?_
  refine p_iload dL_law_270 rfl ?_
  refine p_iconst dL_law_272 ?_
  refine p_iadd dL_law_273 ?_
  refine q_sld hL dL_law_274 h (fun h => ?_)
  refine p_aload_n dL_law_275 rfl ?_
  refine p_iload dL_law_276 rfl ?_
  refine p_iconst dL_law_278 ?_
  refine p_iadd dL_law_279 ?_
  refine q_sld hL dL_law_280 h (fun h => ?_)
  refine p_aload_n dL_law_281 rfl ?_
  refine p_iload dL_law_282 rfl ?_
  refine p_iconst dL_law_284 ?_
  refine p_iadd dL_law_285 ?_
  refine q_sld hL dL_law_286 h (fun h => ?_)
  refine p_aload_n dL_law_287 rfl ?_
  refine p_iload dL_law_288 rfl ?_
  refine p_iconst dL_law_290 ?_
  refine p_iadd dL_law_291 ?_
  refine q_sld hL dL_law_292 h (fun h => ?_)
  refine cV_Iw [vI (xsG g (Int.toNat (s.1 + 1))), vI (xsG g (Int.toNat (s.1 + 2))), vI (xsG g (Int.toNat (s.1 + 3))), vI (xsG g (Int.toNat (s.1 + 4))), vI (xsG g (Int.toNat (s.1 + 5)))] [vI r259] dL_law_293 yv_X11_feed ml_L_140 (r := (RX11, TX11, 41)) rfl rfl (Nat.le_of_ble_eq_true rfl) rfl (Nat.le_of_ble_eq_true rfl) (cuL (x := 0) hI (by decide)) (suL (x := 0) hI (by decide)) rfl h (fun K h => s_X11_feed hG h) (fun r293 D293 h => ?_)
  refine q_icmp_eq (tgt := 3076) dL_law_296 (by decide) h (fun h => ?_) (fun h => ?_)
  · refine p_iinc dL_law_3076 rfl (Nat.le_of_ble_eq_true rfl) rfl ?_
    refine p_goto (tgt := 23) dL_law_3079 (by decide) ?_
    exact p_widen (cuN (x := 0) hI (by decide)) (suN (x := 0) hI (by decide)) (p_weak (leL.same (leL.same (leL.same (leL.same (leL.same (leL.drop (leL.drop leL.nil))))))) (kl_inl (P := P_L l g) h _))
  · refine p_iconst dL_law_299 ?_
    have h := kl_inr h
    exact p_lawret dL_law_300 (cuL (x := 0) hI (by decide)) (suL (x := 0) hI (by decide)) (ok_some (K := K1) h)
set_option maxRecDepth 100000 in
set_option maxHeartbeats 4000000 in
theorem x_L_c1 {l : Launch} {g : GH} (hG : G0 l g) (hL : g.2.2.2.2.2.1 ≤ 3584) {n : Nat} {s : Int × DT} (hI : 0 ≤ s.1 ∧ s.1 ≤ 3584) (h : ok (m_L_c1 (xsG g) g.2.2.2.2.2.1 s) (KL (P_L l g) K1)) : Px (E_L l g) 301 [some (.ref g.2.2.2.2.1), some (vR g 0), some (vR g 73), some (vR g 102), some (vI s.1), none, none] [] (LF n) s.2 (cuF s.1 + 0) (suF s.1 + 0) := by
  refine p_aload_n dL_law_301 rfl ?_
  refine p_aload_n dL_law_302 rfl ?_
  refine p_iload dL_law_303 rfl ?_
  refine p_iconst dL_law_305 ?_
  refine p_iadd dL_law_306 ?_
  refine q_sld hL dL_law_307 h (fun h => ?_)
  refine cV_Iw [vI (xsG g (Int.toNat (s.1 + 1)))] [] dL_law_308 yv_X10_end ml_L_141 (r := (RX10, TX10, 7)) rfl rfl (Nat.le_of_ble_eq_true rfl) rfl (Nat.le_of_ble_eq_true rfl) (cuL (x := 0) hI (by decide)) (suL (x := 0) hI (by decide)) rfl h (fun K h => s_X10_end hG h) (fun r308 D308 h => ?_)
  refine p_aload_n dL_law_311 rfl ?_
  refine p_aload_n dL_law_312 rfl ?_
  refine p_iload dL_law_313 rfl ?_
  refine p_iconst dL_law_315 ?_
  refine p_iadd dL_law_316 ?_
  refine q_sld hL dL_law_317 h (fun h => ?_)
  refine cV_Iw [vI (xsG g (Int.toNat (s.1 + 1)))] [vI r308] dL_law_318 yv_X11_end ml_L_145 (r := (RX11, TX11, 41)) rfl rfl (Nat.le_of_ble_eq_true rfl) rfl (Nat.le_of_ble_eq_true rfl) (cuL (x := 0) hI (by decide)) (suL (x := 0) hI (by decide)) rfl h (fun K h => s_X11_end hG h) (fun r318 D318 h => ?_)
  refine q_icmp_eq (tgt := 3076) dL_law_321 (by decide) h (fun h => ?_) (fun h => ?_)
  · refine p_iinc dL_law_3076 rfl (Nat.le_of_ble_eq_true rfl) rfl ?_
    refine p_goto (tgt := 23) dL_law_3079 (by decide) ?_
    exact p_widen (cuN (x := 0) hI (by decide)) (suN (x := 0) hI (by decide)) (p_weak (leL.same (leL.same (leL.same (leL.same (leL.same (leL.drop (leL.drop leL.nil))))))) (kl_inl (P := P_L l g) h _))
  · refine p_iconst dL_law_324 ?_
    have h := kl_inr h
    exact p_lawret dL_law_325 (cuL (x := 0) hI (by decide)) (suL (x := 0) hI (by decide)) (ok_some (K := K1) h)
set_option maxRecDepth 100000 in
set_option maxHeartbeats 4000000 in
theorem x_L_c2 {l : Launch} {g : GH} (hG : G0 l g) (hL : g.2.2.2.2.2.1 ≤ 3584) {n : Nat} {s : Int × DT} (hI : 0 ≤ s.1 ∧ s.1 ≤ 3584) (h : ok (m_L_c2 (xsG g) g.2.2.2.2.2.1 s) (KL (P_L l g) K1)) : Px (E_L l g) 326 [some (.ref g.2.2.2.2.1), some (vR g 0), some (vR g 73), some (vR g 102), some (vI s.1), none, none] [] (LF n) s.2 (cuF s.1 + 0) (suF s.1 + 0) := by
  refine p_aload_n dL_law_326 rfl ?_
  refine p_aload_n dL_law_327 rfl ?_
  refine cW_Ie [vR g 0, vR g 102] [] dL_law_328 yw_L_read ml_L_146 (Nat.le_of_ble_eq_true rfl) rfl (Nat.le_of_ble_eq_true rfl) (cuL2 (x := 0) (y := 1) hI (by decide)) (suL2 (x := 0) (y := 6) hI (by decide)) h (fun K h => s_L_read hG h) (fun n r328 D328 h => ?_)
  refine p_istore dL_law_331 (Nat.le_of_ble_eq_true rfl) rfl ?_
  refine p_aload_n dL_law_333 rfl ?_
  refine cV_Iw [] [] dL_law_334 yv_X11_read ml_L_151 (r := (RX11, TX11, 41)) rfl rfl (Nat.le_of_ble_eq_true rfl) rfl (Nat.le_of_ble_eq_true rfl) (cuL (x := 1) hI (by decide)) (suL (x := 6) hI (by decide)) rfl h (fun K h => s_X11_read hG h) (fun r334 D334 h => ?_)
  refine p_istore dL_law_337 (Nat.le_of_ble_eq_true rfl) rfl ?_
  refine p_aload_n dL_law_339 rfl ?_
  refine cV_Ir [] [] dL_law_340 yv_X11_thrown ml_L_152 (r := (RX11, TX11, 41)) rfl rfl (Nat.le_of_ble_eq_true rfl) rfl (Nat.le_of_ble_eq_true rfl) (cuL (x := 1) hI (by decide)) (suL (x := 6) hI (by decide)) rfl h (fun K h => s_X11_thrown hG h) (fun r340 h => ?_)
  refine p_iload dL_law_343 rfl ?_
  refine q_icmp_eq (tgt := 350) dL_law_345 (by decide) h (fun h => ?_) (fun h => ?_)
  · refine p_iload dL_law_350 rfl ?_
    refine q_if_ne (tgt := 367) dL_law_352 (by decide) h (fun h => ?_) (fun h => ?_)
    · refine p_goto (tgt := 3076) dL_law_367 (by decide) ?_
      refine p_iinc dL_law_3076 rfl (Nat.le_of_ble_eq_true rfl) rfl ?_
      refine p_goto (tgt := 23) dL_law_3079 (by decide) ?_
      exact p_widen (cuN (x := 1) hI (by decide)) (suN (x := 6) hI (by decide)) (p_weak (leL.same (leL.same (leL.same (leL.same (leL.same (leL.drop (leL.drop leL.nil))))))) (kl_inl (P := P_L l g) h _))
    · refine p_aload_n dL_law_355 rfl ?_
      refine p_iconst dL_law_356 ?_
      refine q_lald dL_law_357 rfl rfl h (fun h => ?_)
      refine p_iload dL_law_358 rfl ?_
      refine q_i2l dL_law_360 h (fun h => ?_)
      refine q_lcmp_eq (tgt := 367) dL_law_361 dL_law_362 (by decide) h (fun h => ?_) (fun h => ?_)
      · refine p_goto (tgt := 3076) dL_law_367 (by decide) ?_
        refine p_iinc dL_law_3076 rfl (Nat.le_of_ble_eq_true rfl) rfl ?_
        refine p_goto (tgt := 23) dL_law_3079 (by decide) ?_
        exact p_widen (cuN (x := 1) hI (by decide)) (suN (x := 6) hI (by decide)) (p_weak (leL.same (leL.same (leL.same (leL.same (leL.same (leL.drop (leL.drop leL.nil))))))) (kl_inl (P := P_L l g) h _))
      · refine p_iconst dL_law_365 ?_
        have h := kl_inr h
        exact p_lawret dL_law_366 (cuL (x := 1) hI (by decide)) (suL (x := 6) hI (by decide)) (ok_some (K := K1) h)
  · refine p_iconst dL_law_348 ?_
    have h := kl_inr h
    exact p_lawret dL_law_349 (cuL (x := 1) hI (by decide)) (suL (x := 6) hI (by decide)) (ok_some (K := K1) h)
set_option maxRecDepth 100000 in
set_option maxHeartbeats 4000000 in
theorem x_L_c3 {l : Launch} {g : GH} (hG : G0 l g) (hL : g.2.2.2.2.2.1 ≤ 3584) {n : Nat} {s : Int × DT} (hI : 0 ≤ s.1 ∧ s.1 ≤ 3584) (h : ok (m_L_c3 (xsG g) g.2.2.2.2.2.1 s) (KL (P_L l g) K1)) : Px (E_L l g) 370 [some (.ref g.2.2.2.2.1), some (vR g 0), some (vR g 73), some (vR g 102), some (vI s.1), none, none] [] (LF n) s.2 (cuF s.1 + 0) (suF s.1 + 0) := by
  refine p_aload_n dL_law_370 rfl ?_
  refine cV_Ir [] [] dL_law_371 yv_X10_fault ml_L_155 (r := (RX10, TX10, 7)) rfl rfl (Nat.le_of_ble_eq_true rfl) rfl (Nat.le_of_ble_eq_true rfl) (cuL (x := 0) hI (by decide)) (suL (x := 0) hI (by decide)) rfl h (fun K h => s_X10_fault hG h) (fun r371 h => ?_)
  refine p_aload_n dL_law_374 rfl ?_
  refine cV_Iw [] [vI r371] dL_law_375 yv_X11_fault ml_L_158 (r := (RX11, TX11, 41)) rfl rfl (Nat.le_of_ble_eq_true rfl) rfl (Nat.le_of_ble_eq_true rfl) (cuL (x := 0) hI (by decide)) (suL (x := 0) hI (by decide)) rfl h (fun K h => s_X11_fault hG h) (fun r375 D375 h => ?_)
  refine q_icmp_eq (tgt := 3076) dL_law_378 (by decide) h (fun h => ?_) (fun h => ?_)
  · refine p_iinc dL_law_3076 rfl (Nat.le_of_ble_eq_true rfl) rfl ?_
    refine p_goto (tgt := 23) dL_law_3079 (by decide) ?_
    exact p_widen (cuN (x := 0) hI (by decide)) (suN (x := 0) hI (by decide)) (p_weak (leL.same (leL.same (leL.same (leL.same (leL.same (leL.drop (leL.drop leL.nil))))))) (kl_inl (P := P_L l g) h _))
  · refine p_iconst dL_law_381 ?_
    have h := kl_inr h
    exact p_lawret dL_law_382 (cuL (x := 0) hI (by decide)) (suL (x := 0) hI (by decide)) (ok_some (K := K1) h)
set_option maxRecDepth 100000 in
set_option maxHeartbeats 4000000 in
theorem x_L_c4 {l : Launch} {g : GH} (hG : G0 l g) (hL : g.2.2.2.2.2.1 ≤ 3584) {n : Nat} {s : Int × DT} (hI : 0 ≤ s.1 ∧ s.1 ≤ 3584) (h : ok (m_L_c4 (xsG g) g.2.2.2.2.2.1 s) (KL (P_L l g) K1)) : Px (E_L l g) 383 [some (.ref g.2.2.2.2.1), some (vR g 0), some (vR g 73), some (vR g 102), some (vI s.1), none, none] [] (LF n) s.2 (cuF s.1 + 0) (suF s.1 + 0) := by
  refine p_aload_n dL_law_383 rfl ?_
  refine p_aload_n dL_law_384 rfl ?_
  refine p_iload dL_law_385 rfl ?_
  refine p_iconst dL_law_387 ?_
  refine p_iadd dL_law_388 ?_
  refine q_sld hL dL_law_389 h (fun h => ?_)
  refine p_aload_n dL_law_390 rfl ?_
  refine p_iload dL_law_391 rfl ?_
  refine p_iconst dL_law_393 ?_
  refine p_iadd dL_law_394 ?_
  refine q_sld hL dL_law_395 h (fun h => ?_)
  refine p_aload_n dL_law_396 rfl ?_
  refine cW_Ie [vR g 0, vI (xsG g (Int.toNat (s.1 + 1))), vI (xsG g (Int.toNat (s.1 + 2))), vR g 102] [] dL_law_397 yw_L_cell ml_L_159 (Nat.le_of_ble_eq_true rfl) rfl (Nat.le_of_ble_eq_true rfl) (cuL2 (x := 0) (y := 2) hI (by decide)) (suL2 (x := 0) (y := 12) hI (by decide)) h (fun K h => s_L_cell hG h) (fun n r397 D397 h => ?_)
  refine p_istore dL_law_400 (Nat.le_of_ble_eq_true rfl) rfl ?_
  refine p_aload_n dL_law_402 rfl ?_
  refine p_aload_n dL_law_403 rfl ?_
  refine p_iload dL_law_404 rfl ?_
  refine p_iconst dL_law_406 ?_
  refine p_iadd dL_law_407 ?_
  refine q_sld hL dL_law_408 h (fun h => ?_)
  refine p_aload_n dL_law_409 rfl ?_
  refine p_iload dL_law_410 rfl ?_
  refine p_iconst dL_law_412 ?_
  refine p_iadd dL_law_413 ?_
  refine q_sld hL dL_law_414 h (fun h => ?_)
  refine cV_Iw [vI (xsG g (Int.toNat (s.1 + 1))), vI (xsG g (Int.toNat (s.1 + 2)))] [] dL_law_415 yv_X11_cell ml_L_162 (r := (RX11, TX11, 41)) rfl rfl (Nat.le_of_ble_eq_true rfl) rfl (Nat.le_of_ble_eq_true rfl) (cuL (x := 2) hI (by decide)) (suL (x := 12) hI (by decide)) rfl h (fun K h => s_X11_cell hG h) (fun r415 D415 h => ?_)
  refine p_istore dL_law_418 (Nat.le_of_ble_eq_true rfl) rfl ?_
  refine p_aload_n dL_law_420 rfl ?_
  refine cV_Ir [] [] dL_law_421 yv_X11_thrown ml_L_152 (r := (RX11, TX11, 41)) rfl rfl (Nat.le_of_ble_eq_true rfl) rfl (Nat.le_of_ble_eq_true rfl) (cuL (x := 2) hI (by decide)) (suL (x := 12) hI (by decide)) rfl h (fun K h => s_X11_thrown hG h) (fun r421 h => ?_)
  refine p_iload dL_law_424 rfl ?_
  refine q_icmp_eq (tgt := 431) dL_law_426 (by decide) h (fun h => ?_) (fun h => ?_)
  · refine p_iload dL_law_431 rfl ?_
    refine q_if_ne (tgt := 448) dL_law_433 (by decide) h (fun h => ?_) (fun h => ?_)
    · refine p_goto (tgt := 3076) dL_law_448 (by decide) ?_
      refine p_iinc dL_law_3076 rfl (Nat.le_of_ble_eq_true rfl) rfl ?_
      refine p_goto (tgt := 23) dL_law_3079 (by decide) ?_
      exact p_widen (cuN (x := 2) hI (by decide)) (suN (x := 12) hI (by decide)) (p_weak (leL.same (leL.same (leL.same (leL.same (leL.same (leL.drop (leL.drop leL.nil))))))) (kl_inl (P := P_L l g) h _))
    · refine p_aload_n dL_law_436 rfl ?_
      refine p_iconst dL_law_437 ?_
      refine q_lald dL_law_438 rfl rfl h (fun h => ?_)
      refine p_iload dL_law_439 rfl ?_
      refine q_i2l dL_law_441 h (fun h => ?_)
      refine q_lcmp_eq (tgt := 448) dL_law_442 dL_law_443 (by decide) h (fun h => ?_) (fun h => ?_)
      · refine p_goto (tgt := 3076) dL_law_448 (by decide) ?_
        refine p_iinc dL_law_3076 rfl (Nat.le_of_ble_eq_true rfl) rfl ?_
        refine p_goto (tgt := 23) dL_law_3079 (by decide) ?_
        exact p_widen (cuN (x := 2) hI (by decide)) (suN (x := 12) hI (by decide)) (p_weak (leL.same (leL.same (leL.same (leL.same (leL.same (leL.drop (leL.drop leL.nil))))))) (kl_inl (P := P_L l g) h _))
      · refine p_iconst dL_law_446 ?_
        have h := kl_inr h
        exact p_lawret dL_law_447 (cuL (x := 2) hI (by decide)) (suL (x := 12) hI (by decide)) (ok_some (K := K1) h)
  · refine p_iconst dL_law_429 ?_
    have h := kl_inr h
    exact p_lawret dL_law_430 (cuL (x := 2) hI (by decide)) (suL (x := 12) hI (by decide)) (ok_some (K := K1) h)
set_option maxRecDepth 100000 in
set_option maxHeartbeats 4000000 in
theorem x_L_c5 {l : Launch} {g : GH} (hG : G0 l g) (hL : g.2.2.2.2.2.1 ≤ 3584) {n : Nat} {s : Int × DT} (hI : 0 ≤ s.1 ∧ s.1 ≤ 3584) (h : ok (m_L_c5 (xsG g) g.2.2.2.2.2.1 s) (KL (P_L l g) K1)) : Px (E_L l g) 451 [some (.ref g.2.2.2.2.1), some (vR g 0), some (vR g 73), some (vR g 102), some (vI s.1), none, none] [] (LF n) s.2 (cuF s.1 + 0) (suF s.1 + 0) := by
  refine p_aload_n dL_law_451 rfl ?_
  refine p_aload_n dL_law_452 rfl ?_
  refine p_iload dL_law_453 rfl ?_
  refine p_iconst dL_law_455 ?_
  refine p_iadd dL_law_456 ?_
  refine q_sld hL dL_law_457 h (fun h => ?_)
  refine p_aload_n dL_law_458 rfl ?_
  refine p_iload dL_law_459 rfl ?_
  refine p_iconst dL_law_461 ?_
  refine p_iadd dL_law_462 ?_
  refine q_sld hL dL_law_463 h (fun h => ?_)
  refine p_aload_n dL_law_464 rfl ?_
  refine cW_Ie [vR g 0, vI (xsG g (Int.toNat (s.1 + 1))), vI (xsG g (Int.toNat (s.1 + 2))), vR g 102] [] dL_law_465 yw_L_zone ml_L_163 (Nat.le_of_ble_eq_true rfl) rfl (Nat.le_of_ble_eq_true rfl) (cuL2 (x := 0) (y := 2) hI (by decide)) (suL2 (x := 0) (y := 12) hI (by decide)) h (fun K h => s_L_zone hG h) (fun n r465 D465 h => ?_)
  refine p_istore dL_law_468 (Nat.le_of_ble_eq_true rfl) rfl ?_
  refine p_aload_n dL_law_470 rfl ?_
  refine p_aload_n dL_law_471 rfl ?_
  refine p_iload dL_law_472 rfl ?_
  refine p_iconst dL_law_474 ?_
  refine p_iadd dL_law_475 ?_
  refine q_sld hL dL_law_476 h (fun h => ?_)
  refine p_aload_n dL_law_477 rfl ?_
  refine p_iload dL_law_478 rfl ?_
  refine p_iconst dL_law_480 ?_
  refine p_iadd dL_law_481 ?_
  refine q_sld hL dL_law_482 h (fun h => ?_)
  refine cV_Iw [vI (xsG g (Int.toNat (s.1 + 1))), vI (xsG g (Int.toNat (s.1 + 2)))] [] dL_law_483 yv_X11_zone ml_L_165 (r := (RX11, TX11, 41)) rfl rfl (Nat.le_of_ble_eq_true rfl) rfl (Nat.le_of_ble_eq_true rfl) (cuL (x := 2) hI (by decide)) (suL (x := 12) hI (by decide)) rfl h (fun K h => s_X11_zone hG h) (fun r483 D483 h => ?_)
  refine p_istore dL_law_486 (Nat.le_of_ble_eq_true rfl) rfl ?_
  refine p_aload_n dL_law_488 rfl ?_
  refine cV_Ir [] [] dL_law_489 yv_X11_thrown ml_L_152 (r := (RX11, TX11, 41)) rfl rfl (Nat.le_of_ble_eq_true rfl) rfl (Nat.le_of_ble_eq_true rfl) (cuL (x := 2) hI (by decide)) (suL (x := 12) hI (by decide)) rfl h (fun K h => s_X11_thrown hG h) (fun r489 h => ?_)
  refine p_iload dL_law_492 rfl ?_
  refine q_icmp_eq (tgt := 499) dL_law_494 (by decide) h (fun h => ?_) (fun h => ?_)
  · refine p_iload dL_law_499 rfl ?_
    refine q_if_ne (tgt := 516) dL_law_501 (by decide) h (fun h => ?_) (fun h => ?_)
    · refine p_goto (tgt := 3076) dL_law_516 (by decide) ?_
      refine p_iinc dL_law_3076 rfl (Nat.le_of_ble_eq_true rfl) rfl ?_
      refine p_goto (tgt := 23) dL_law_3079 (by decide) ?_
      exact p_widen (cuN (x := 2) hI (by decide)) (suN (x := 12) hI (by decide)) (p_weak (leL.same (leL.same (leL.same (leL.same (leL.same (leL.drop (leL.drop leL.nil))))))) (kl_inl (P := P_L l g) h _))
    · refine p_aload_n dL_law_504 rfl ?_
      refine p_iconst dL_law_505 ?_
      refine q_lald dL_law_506 rfl rfl h (fun h => ?_)
      refine p_iload dL_law_507 rfl ?_
      refine q_i2l dL_law_509 h (fun h => ?_)
      refine q_lcmp_eq (tgt := 516) dL_law_510 dL_law_511 (by decide) h (fun h => ?_) (fun h => ?_)
      · refine p_goto (tgt := 3076) dL_law_516 (by decide) ?_
        refine p_iinc dL_law_3076 rfl (Nat.le_of_ble_eq_true rfl) rfl ?_
        refine p_goto (tgt := 23) dL_law_3079 (by decide) ?_
        exact p_widen (cuN (x := 2) hI (by decide)) (suN (x := 12) hI (by decide)) (p_weak (leL.same (leL.same (leL.same (leL.same (leL.same (leL.drop (leL.drop leL.nil))))))) (kl_inl (P := P_L l g) h _))
      · refine p_iconst dL_law_514 ?_
        have h := kl_inr h
        exact p_lawret dL_law_515 (cuL (x := 2) hI (by decide)) (suL (x := 12) hI (by decide)) (ok_some (K := K1) h)
  · refine p_iconst dL_law_497 ?_
    have h := kl_inr h
    exact p_lawret dL_law_498 (cuL (x := 2) hI (by decide)) (suL (x := 12) hI (by decide)) (ok_some (K := K1) h)
set_option maxRecDepth 100000 in
set_option maxHeartbeats 4000000 in
theorem x_L_c6 {l : Launch} {g : GH} (hG : G0 l g) (hL : g.2.2.2.2.2.1 ≤ 3584) {n : Nat} {s : Int × DT} (hI : 0 ≤ s.1 ∧ s.1 ≤ 3584) (h : ok (m_L_c6 (xsG g) g.2.2.2.2.2.1 s) (KL (P_L l g) K1)) : Px (E_L l g) 519 [some (.ref g.2.2.2.2.1), some (vR g 0), some (vR g 73), some (vR g 102), some (vI s.1), none, none] [] (LF n) s.2 (cuF s.1 + 0) (suF s.1 + 0) := by
  refine p_aload_n dL_law_519 rfl ?_
  refine p_aload_n dL_law_520 rfl ?_
  refine p_iload dL_law_521 rfl ?_
  refine p_iconst dL_law_523 ?_
  refine p_iadd dL_law_524 ?_
  refine q_sld hL dL_law_525 h (fun h => ?_)
  refine p_aload_n dL_law_526 rfl ?_
  refine p_iload dL_law_527 rfl ?_
  refine p_iconst dL_law_529 ?_
  refine p_iadd dL_law_530 ?_
  refine q_sld hL dL_law_531 h (fun h => ?_)
  refine p_aload_n dL_law_532 rfl ?_
  refine cW_Ie [vR g 0, vI (xsG g (Int.toNat (s.1 + 1))), vI (xsG g (Int.toNat (s.1 + 2))), vR g 102] [] dL_law_533 yw_L_name ml_L_166 (Nat.le_of_ble_eq_true rfl) rfl (Nat.le_of_ble_eq_true rfl) (cuL2 (x := 0) (y := 1) hI (by decide)) (suL2 (x := 0) (y := 6) hI (by decide)) h (fun K h => s_L_name hG h) (fun n r533 D533 h => ?_)
  refine p_istore dL_law_536 (Nat.le_of_ble_eq_true rfl) rfl ?_
  refine p_aload_n dL_law_538 rfl ?_
  refine p_aload_n dL_law_539 rfl ?_
  refine p_iload dL_law_540 rfl ?_
  refine p_iconst dL_law_542 ?_
  refine p_iadd dL_law_543 ?_
  refine q_sld hL dL_law_544 h (fun h => ?_)
  refine p_aload_n dL_law_545 rfl ?_
  refine p_iload dL_law_546 rfl ?_
  refine p_iconst dL_law_548 ?_
  refine p_iadd dL_law_549 ?_
  refine q_sld hL dL_law_550 h (fun h => ?_)
  refine cV_Iw [vI (xsG g (Int.toNat (s.1 + 1))), vI (xsG g (Int.toNat (s.1 + 2)))] [] dL_law_551 yv_X11_name ml_L_168 (r := (RX11, TX11, 41)) rfl rfl (Nat.le_of_ble_eq_true rfl) rfl (Nat.le_of_ble_eq_true rfl) (cuL (x := 1) hI (by decide)) (suL (x := 6) hI (by decide)) rfl h (fun K h => s_X11_name hG h) (fun r551 D551 h => ?_)
  refine p_istore dL_law_554 (Nat.le_of_ble_eq_true rfl) rfl ?_
  refine p_aload_n dL_law_556 rfl ?_
  refine cV_Ir [] [] dL_law_557 yv_X11_thrown ml_L_152 (r := (RX11, TX11, 41)) rfl rfl (Nat.le_of_ble_eq_true rfl) rfl (Nat.le_of_ble_eq_true rfl) (cuL (x := 1) hI (by decide)) (suL (x := 6) hI (by decide)) rfl h (fun K h => s_X11_thrown hG h) (fun r557 h => ?_)
  refine p_iload dL_law_560 rfl ?_
  refine q_icmp_eq (tgt := 567) dL_law_562 (by decide) h (fun h => ?_) (fun h => ?_)
  · refine p_iload dL_law_567 rfl ?_
    refine q_if_ne (tgt := 584) dL_law_569 (by decide) h (fun h => ?_) (fun h => ?_)
    · refine p_goto (tgt := 3076) dL_law_584 (by decide) ?_
      refine p_iinc dL_law_3076 rfl (Nat.le_of_ble_eq_true rfl) rfl ?_
      refine p_goto (tgt := 23) dL_law_3079 (by decide) ?_
      exact p_widen (cuN (x := 1) hI (by decide)) (suN (x := 6) hI (by decide)) (p_weak (leL.same (leL.same (leL.same (leL.same (leL.same (leL.drop (leL.drop leL.nil))))))) (kl_inl (P := P_L l g) h _))
    · refine p_aload_n dL_law_572 rfl ?_
      refine p_iconst dL_law_573 ?_
      refine q_lald dL_law_574 rfl rfl h (fun h => ?_)
      refine p_iload dL_law_575 rfl ?_
      refine q_i2l dL_law_577 h (fun h => ?_)
      refine q_lcmp_eq (tgt := 584) dL_law_578 dL_law_579 (by decide) h (fun h => ?_) (fun h => ?_)
      · refine p_goto (tgt := 3076) dL_law_584 (by decide) ?_
        refine p_iinc dL_law_3076 rfl (Nat.le_of_ble_eq_true rfl) rfl ?_
        refine p_goto (tgt := 23) dL_law_3079 (by decide) ?_
        exact p_widen (cuN (x := 1) hI (by decide)) (suN (x := 6) hI (by decide)) (p_weak (leL.same (leL.same (leL.same (leL.same (leL.same (leL.drop (leL.drop leL.nil))))))) (kl_inl (P := P_L l g) h _))
      · refine p_iconst dL_law_582 ?_
        have h := kl_inr h
        exact p_lawret dL_law_583 (cuL (x := 1) hI (by decide)) (suL (x := 6) hI (by decide)) (ok_some (K := K1) h)
  · refine p_iconst dL_law_565 ?_
    have h := kl_inr h
    exact p_lawret dL_law_566 (cuL (x := 1) hI (by decide)) (suL (x := 6) hI (by decide)) (ok_some (K := K1) h)
set_option maxRecDepth 100000 in
set_option maxHeartbeats 4000000 in
theorem x_L_c7 {l : Launch} {g : GH} (hG : G0 l g) (hL : g.2.2.2.2.2.1 ≤ 3584) {n : Nat} {s : Int × DT} (hI : 0 ≤ s.1 ∧ s.1 ≤ 3584) (h : ok (m_L_c7 (xsG g) g.2.2.2.2.2.1 s) (KL (P_L l g) K1)) : Px (E_L l g) 587 [some (.ref g.2.2.2.2.1), some (vR g 0), some (vR g 73), some (vR g 102), some (vI s.1), none, none] [] (LF n) s.2 (cuF s.1 + 0) (suF s.1 + 0) := by
  refine p_aload_n dL_law_587 rfl ?_
  refine p_aload_n dL_law_588 rfl ?_
  refine p_iload dL_law_589 rfl ?_
  refine p_iconst dL_law_591 ?_
  refine p_iadd dL_law_592 ?_
  refine q_sld hL dL_law_593 h (fun h => ?_)
  refine p_aload_n dL_law_594 rfl ?_
  refine p_iload dL_law_595 rfl ?_
  refine p_iconst dL_law_597 ?_
  refine p_iadd dL_law_598 ?_
  refine q_sld hL dL_law_599 h (fun h => ?_)
  refine p_aload_n dL_law_600 rfl ?_
  refine p_iload dL_law_601 rfl ?_
  refine p_iconst dL_law_603 ?_
  refine p_iadd dL_law_604 ?_
  refine q_sld hL dL_law_605 h (fun h => ?_)
  refine p_aload_n dL_law_606 rfl ?_
  refine cW_Ie [vR g 0, vI (xsG g (Int.toNat (s.1 + 1))), vI (xsG g (Int.toNat (s.1 + 2))), vI (xsG g (Int.toNat (s.1 + 3))), vR g 102] [] dL_law_607 yw_L_people ml_L_169 (Nat.le_of_ble_eq_true rfl) rfl (Nat.le_of_ble_eq_true rfl) (cuL2 (x := 0) (y := 3) hI (by decide)) (suL2 (x := 0) (y := 18) hI (by decide)) h (fun K h => s_L_people hG h) (fun n r607 D607 h => ?_)
  refine p_istore dL_law_610 (Nat.le_of_ble_eq_true rfl) rfl ?_
  refine p_aload_n dL_law_612 rfl ?_
  refine p_aload_n dL_law_613 rfl ?_
  refine p_iload dL_law_614 rfl ?_
  refine p_iconst dL_law_616 ?_
  refine p_iadd dL_law_617 ?_
  refine q_sld hL dL_law_618 h (fun h => ?_)
  refine p_aload_n dL_law_619 rfl ?_
  refine p_iload dL_law_620 rfl ?_
  refine p_iconst dL_law_622 ?_
  refine p_iadd dL_law_623 ?_
  refine q_sld hL dL_law_624 h (fun h => ?_)
  refine p_aload_n dL_law_625 rfl ?_
  refine p_iload dL_law_626 rfl ?_
  refine p_iconst dL_law_628 ?_
  refine p_iadd dL_law_629 ?_
  refine q_sld hL dL_law_630 h (fun h => ?_)
  refine cV_Iw [vI (xsG g (Int.toNat (s.1 + 1))), vI (xsG g (Int.toNat (s.1 + 2))), vI (xsG g (Int.toNat (s.1 + 3)))] [] dL_law_631 yv_X11_people ml_L_172 (r := (RX11, TX11, 41)) rfl rfl (Nat.le_of_ble_eq_true rfl) rfl (Nat.le_of_ble_eq_true rfl) (cuL (x := 3) hI (by decide)) (suL (x := 18) hI (by decide)) rfl h (fun K h => s_X11_people hG h) (fun r631 D631 h => ?_)
  refine p_istore dL_law_634 (Nat.le_of_ble_eq_true rfl) rfl ?_
  refine p_aload_n dL_law_636 rfl ?_
  refine cV_Ir [] [] dL_law_637 yv_X11_thrown ml_L_152 (r := (RX11, TX11, 41)) rfl rfl (Nat.le_of_ble_eq_true rfl) rfl (Nat.le_of_ble_eq_true rfl) (cuL (x := 3) hI (by decide)) (suL (x := 18) hI (by decide)) rfl h (fun K h => s_X11_thrown hG h) (fun r637 h => ?_)
  refine p_iload dL_law_640 rfl ?_
  refine q_icmp_eq (tgt := 647) dL_law_642 (by decide) h (fun h => ?_) (fun h => ?_)
  · refine p_iload dL_law_647 rfl ?_
    refine q_if_ne (tgt := 664) dL_law_649 (by decide) h (fun h => ?_) (fun h => ?_)
    · refine p_goto (tgt := 3076) dL_law_664 (by decide) ?_
      refine p_iinc dL_law_3076 rfl (Nat.le_of_ble_eq_true rfl) rfl ?_
      refine p_goto (tgt := 23) dL_law_3079 (by decide) ?_
      exact p_widen (cuN (x := 3) hI (by decide)) (suN (x := 18) hI (by decide)) (p_weak (leL.same (leL.same (leL.same (leL.same (leL.same (leL.drop (leL.drop leL.nil))))))) (kl_inl (P := P_L l g) h _))
    · refine p_aload_n dL_law_652 rfl ?_
      refine p_iconst dL_law_653 ?_
      refine q_lald dL_law_654 rfl rfl h (fun h => ?_)
      refine p_iload dL_law_655 rfl ?_
      refine q_i2l dL_law_657 h (fun h => ?_)
      refine q_lcmp_eq (tgt := 664) dL_law_658 dL_law_659 (by decide) h (fun h => ?_) (fun h => ?_)
      · refine p_goto (tgt := 3076) dL_law_664 (by decide) ?_
        refine p_iinc dL_law_3076 rfl (Nat.le_of_ble_eq_true rfl) rfl ?_
        refine p_goto (tgt := 23) dL_law_3079 (by decide) ?_
        exact p_widen (cuN (x := 3) hI (by decide)) (suN (x := 18) hI (by decide)) (p_weak (leL.same (leL.same (leL.same (leL.same (leL.same (leL.drop (leL.drop leL.nil))))))) (kl_inl (P := P_L l g) h _))
      · refine p_iconst dL_law_662 ?_
        have h := kl_inr h
        exact p_lawret dL_law_663 (cuL (x := 3) hI (by decide)) (suL (x := 18) hI (by decide)) (ok_some (K := K1) h)
  · refine p_iconst dL_law_645 ?_
    have h := kl_inr h
    exact p_lawret dL_law_646 (cuL (x := 3) hI (by decide)) (suL (x := 18) hI (by decide)) (ok_some (K := K1) h)
set_option maxRecDepth 100000 in
set_option maxHeartbeats 4000000 in
theorem x_L_c8 {l : Launch} {g : GH} (hG : G0 l g) (hL : g.2.2.2.2.2.1 ≤ 3584) {n : Nat} {s : Int × DT} (hI : 0 ≤ s.1 ∧ s.1 ≤ 3584) (h : ok (m_L_c8 (xsG g) g.2.2.2.2.2.1 s) (KL (P_L l g) K1)) : Px (E_L l g) 667 [some (.ref g.2.2.2.2.1), some (vR g 0), some (vR g 73), some (vR g 102), some (vI s.1), none, none] [] (LF n) s.2 (cuF s.1 + 0) (suF s.1 + 0) := by
  refine p_aload_n dL_law_667 rfl ?_
  refine p_aload_n dL_law_668 rfl ?_
  refine p_iload dL_law_669 rfl ?_
  refine p_iconst dL_law_671 ?_
  refine p_iadd dL_law_672 ?_
  refine q_sld hL dL_law_673 h (fun h => ?_)
  refine p_aload_n dL_law_674 rfl ?_
  refine p_iload dL_law_675 rfl ?_
  refine p_iconst dL_law_677 ?_
  refine p_iadd dL_law_678 ?_
  refine q_sld hL dL_law_679 h (fun h => ?_)
  refine p_aload_n dL_law_680 rfl ?_
  refine cW_Ie [vR g 0, vI (xsG g (Int.toNat (s.1 + 1))), vI (xsG g (Int.toNat (s.1 + 2))), vR g 102] [] dL_law_681 yw_L_lives ml_L_173 (Nat.le_of_ble_eq_true rfl) rfl (Nat.le_of_ble_eq_true rfl) (cuL2 (x := 0) (y := 2) hI (by decide)) (suL2 (x := 0) (y := 12) hI (by decide)) h (fun K h => s_L_lives hG h) (fun n r681 D681 h => ?_)
  refine p_istore dL_law_684 (Nat.le_of_ble_eq_true rfl) rfl ?_
  refine p_aload_n dL_law_686 rfl ?_
  refine p_aload_n dL_law_687 rfl ?_
  refine p_iload dL_law_688 rfl ?_
  refine p_iconst dL_law_690 ?_
  refine p_iadd dL_law_691 ?_
  refine q_sld hL dL_law_692 h (fun h => ?_)
  refine p_aload_n dL_law_693 rfl ?_
  refine p_iload dL_law_694 rfl ?_
  refine p_iconst dL_law_696 ?_
  refine p_iadd dL_law_697 ?_
  refine q_sld hL dL_law_698 h (fun h => ?_)
  refine cV_Iw [vI (xsG g (Int.toNat (s.1 + 1))), vI (xsG g (Int.toNat (s.1 + 2)))] [] dL_law_699 yv_X11_lives ml_L_175 (r := (RX11, TX11, 41)) rfl rfl (Nat.le_of_ble_eq_true rfl) rfl (Nat.le_of_ble_eq_true rfl) (cuL (x := 2) hI (by decide)) (suL (x := 12) hI (by decide)) rfl h (fun K h => s_X11_lives hG h) (fun r699 D699 h => ?_)
  refine p_istore dL_law_702 (Nat.le_of_ble_eq_true rfl) rfl ?_
  refine p_aload_n dL_law_704 rfl ?_
  refine cV_Ir [] [] dL_law_705 yv_X11_thrown ml_L_152 (r := (RX11, TX11, 41)) rfl rfl (Nat.le_of_ble_eq_true rfl) rfl (Nat.le_of_ble_eq_true rfl) (cuL (x := 2) hI (by decide)) (suL (x := 12) hI (by decide)) rfl h (fun K h => s_X11_thrown hG h) (fun r705 h => ?_)
  refine p_iload dL_law_708 rfl ?_
  refine q_icmp_eq (tgt := 715) dL_law_710 (by decide) h (fun h => ?_) (fun h => ?_)
  · refine p_iload dL_law_715 rfl ?_
    refine q_if_ne (tgt := 732) dL_law_717 (by decide) h (fun h => ?_) (fun h => ?_)
    · refine p_goto (tgt := 3076) dL_law_732 (by decide) ?_
      refine p_iinc dL_law_3076 rfl (Nat.le_of_ble_eq_true rfl) rfl ?_
      refine p_goto (tgt := 23) dL_law_3079 (by decide) ?_
      exact p_widen (cuN (x := 2) hI (by decide)) (suN (x := 12) hI (by decide)) (p_weak (leL.same (leL.same (leL.same (leL.same (leL.same (leL.drop (leL.drop leL.nil))))))) (kl_inl (P := P_L l g) h _))
    · refine p_aload_n dL_law_720 rfl ?_
      refine p_iconst dL_law_721 ?_
      refine q_lald dL_law_722 rfl rfl h (fun h => ?_)
      refine p_iload dL_law_723 rfl ?_
      refine q_i2l dL_law_725 h (fun h => ?_)
      refine q_lcmp_eq (tgt := 732) dL_law_726 dL_law_727 (by decide) h (fun h => ?_) (fun h => ?_)
      · refine p_goto (tgt := 3076) dL_law_732 (by decide) ?_
        refine p_iinc dL_law_3076 rfl (Nat.le_of_ble_eq_true rfl) rfl ?_
        refine p_goto (tgt := 23) dL_law_3079 (by decide) ?_
        exact p_widen (cuN (x := 2) hI (by decide)) (suN (x := 12) hI (by decide)) (p_weak (leL.same (leL.same (leL.same (leL.same (leL.same (leL.drop (leL.drop leL.nil))))))) (kl_inl (P := P_L l g) h _))
      · refine p_iconst dL_law_730 ?_
        have h := kl_inr h
        exact p_lawret dL_law_731 (cuL (x := 2) hI (by decide)) (suL (x := 12) hI (by decide)) (ok_some (K := K1) h)
  · refine p_iconst dL_law_713 ?_
    have h := kl_inr h
    exact p_lawret dL_law_714 (cuL (x := 2) hI (by decide)) (suL (x := 12) hI (by decide)) (ok_some (K := K1) h)
set_option maxRecDepth 100000 in
set_option maxHeartbeats 4000000 in
theorem x_L_c9 {l : Launch} {g : GH} (hG : G0 l g) (hL : g.2.2.2.2.2.1 ≤ 3584) {n : Nat} {s : Int × DT} (hI : 0 ≤ s.1 ∧ s.1 ≤ 3584) (h : ok (m_L_c9 (xsG g) g.2.2.2.2.2.1 s) (KL (P_L l g) K1)) : Px (E_L l g) 735 [some (.ref g.2.2.2.2.1), some (vR g 0), some (vR g 73), some (vR g 102), some (vI s.1), none, none] [] (LF n) s.2 (cuF s.1 + 0) (suF s.1 + 0) := by
  refine p_aload_n dL_law_735 rfl ?_
  refine p_aload_n dL_law_736 rfl ?_
  refine p_iload dL_law_737 rfl ?_
  refine p_iconst dL_law_739 ?_
  refine p_iadd dL_law_740 ?_
  refine q_sld hL dL_law_741 h (fun h => ?_)
  refine p_aload_n dL_law_742 rfl ?_
  refine p_iload dL_law_743 rfl ?_
  refine p_iconst dL_law_745 ?_
  refine p_iadd dL_law_746 ?_
  refine q_sld hL dL_law_747 h (fun h => ?_)
  refine q_if_eq (tgt := 755) dL_law_748 (by decide) h (fun h => ?_) (fun h => ?_)
  · refine p_iconst dL_law_755 ?_
    refine p_aload_n dL_law_756 rfl ?_
    refine cW_Ie [vR g 0, vI (xsG g (Int.toNat (s.1 + 1))), vI 0, vR g 102] [] dL_law_757 yw_L_flood ml_L_176 (Nat.le_of_ble_eq_true rfl) rfl (Nat.le_of_ble_eq_true rfl) (cuL2 (x := 0) (y := 1) hI (by decide)) (suL2 (x := 0) (y := 6) hI (by decide)) h (fun K h => s_L_flood hG h) (fun n r757 D757 h => ?_)
    refine p_istore dL_law_760 (Nat.le_of_ble_eq_true rfl) rfl ?_
    refine p_aload_n dL_law_762 rfl ?_
    refine p_aload_n dL_law_763 rfl ?_
    refine p_iload dL_law_764 rfl ?_
    refine p_iconst dL_law_766 ?_
    refine p_iadd dL_law_767 ?_
    refine q_sld hL dL_law_768 h (fun h => ?_)
    refine p_aload_n dL_law_769 rfl ?_
    refine p_iload dL_law_770 rfl ?_
    refine p_iconst dL_law_772 ?_
    refine p_iadd dL_law_773 ?_
    refine q_sld hL dL_law_774 h (fun h => ?_)
    refine q_if_eq (tgt := 782) dL_law_775 (by decide) h (fun h => ?_) (fun h => ?_)
    · refine p_iconst dL_law_782 ?_
      refine cV_Iw [vI (xsG g (Int.toNat (s.1 + 1))), vI 0] [] dL_law_783 yv_X11_flood ml_L_179 (r := (RX11, TX11, 41)) rfl rfl (Nat.le_of_ble_eq_true rfl) rfl (Nat.le_of_ble_eq_true rfl) (cuL (x := 1) hI (by decide)) (suL (x := 6) hI (by decide)) rfl h (fun K h => s_X11_flood hG h) (fun r783 D783 h => ?_)
      refine p_istore dL_law_786 (Nat.le_of_ble_eq_true rfl) rfl ?_
      refine p_aload_n dL_law_788 rfl ?_
      refine cV_Ir [] [] dL_law_789 yv_X11_thrown ml_L_152 (r := (RX11, TX11, 41)) rfl rfl (Nat.le_of_ble_eq_true rfl) rfl (Nat.le_of_ble_eq_true rfl) (cuL (x := 1) hI (by decide)) (suL (x := 6) hI (by decide)) rfl h (fun K h => s_X11_thrown hG h) (fun r789 h => ?_)
      refine p_iload dL_law_792 rfl ?_
      refine q_icmp_eq (tgt := 799) dL_law_794 (by decide) h (fun h => ?_) (fun h => ?_)
      · refine p_iload dL_law_799 rfl ?_
        refine q_if_ne (tgt := 823) dL_law_801 (by decide) h (fun h => ?_) (fun h => ?_)
        · refine p_goto (tgt := 3076) dL_law_823 (by decide) ?_
          refine p_iinc dL_law_3076 rfl (Nat.le_of_ble_eq_true rfl) rfl ?_
          refine p_goto (tgt := 23) dL_law_3079 (by decide) ?_
          exact p_widen (cuN (x := 1) hI (by decide)) (suN (x := 6) hI (by decide)) (p_weak (leL.same (leL.same (leL.same (leL.same (leL.same (leL.drop (leL.drop leL.nil))))))) (kl_inl (P := P_L l g) h _))
        · refine p_aload_n dL_law_804 rfl ?_
          refine p_iconst dL_law_805 ?_
          refine q_lald dL_law_806 rfl rfl h (fun h => ?_)
          refine p_iload dL_law_807 rfl ?_
          refine q_if_eq (tgt := 816) dL_law_809 (by decide) h (fun h => ?_) (fun h => ?_)
          · refine p_lconst 0 dL_law_816 (by decide) ?_
            refine q_lcmp_eq (tgt := 823) dL_law_817 dL_law_818 (by decide) h (fun h => ?_) (fun h => ?_)
            · refine p_goto (tgt := 3076) dL_law_823 (by decide) ?_
              refine p_iinc dL_law_3076 rfl (Nat.le_of_ble_eq_true rfl) rfl ?_
              refine p_goto (tgt := 23) dL_law_3079 (by decide) ?_
              exact p_widen (cuN (x := 1) hI (by decide)) (suN (x := 6) hI (by decide)) (p_weak (leL.same (leL.same (leL.same (leL.same (leL.same (leL.drop (leL.drop leL.nil))))))) (kl_inl (P := P_L l g) h _))
            · refine p_iconst dL_law_821 ?_
              have h := kl_inr h
              exact p_lawret dL_law_822 (cuL (x := 1) hI (by decide)) (suL (x := 6) hI (by decide)) (ok_some (K := K1) h)
          · refine p_lconst 1 dL_law_812 (by decide) ?_
            refine p_goto (tgt := 817) dL_law_813 (by decide) ?_
            refine q_lcmp_eq (tgt := 823) dL_law_817 dL_law_818 (by decide) h (fun h => ?_) (fun h => ?_)
            · refine p_goto (tgt := 3076) dL_law_823 (by decide) ?_
              refine p_iinc dL_law_3076 rfl (Nat.le_of_ble_eq_true rfl) rfl ?_
              refine p_goto (tgt := 23) dL_law_3079 (by decide) ?_
              exact p_widen (cuN (x := 1) hI (by decide)) (suN (x := 6) hI (by decide)) (p_weak (leL.same (leL.same (leL.same (leL.same (leL.same (leL.drop (leL.drop leL.nil))))))) (kl_inl (P := P_L l g) h _))
            · refine p_iconst dL_law_821 ?_
              have h := kl_inr h
              exact p_lawret dL_law_822 (cuL (x := 1) hI (by decide)) (suL (x := 6) hI (by decide)) (ok_some (K := K1) h)
      · refine p_iconst dL_law_797 ?_
        have h := kl_inr h
        exact p_lawret dL_law_798 (cuL (x := 1) hI (by decide)) (suL (x := 6) hI (by decide)) (ok_some (K := K1) h)
    · refine p_iconst dL_law_778 ?_
      refine p_goto (tgt := 783) dL_law_779 (by decide) ?_
      refine cV_Iw [vI (xsG g (Int.toNat (s.1 + 1))), vI 1] [] dL_law_783 yv_X11_flood ml_L_179 (r := (RX11, TX11, 41)) rfl rfl (Nat.le_of_ble_eq_true rfl) rfl (Nat.le_of_ble_eq_true rfl) (cuL (x := 1) hI (by decide)) (suL (x := 6) hI (by decide)) rfl h (fun K h => s_X11_flood hG h) (fun r783 D783 h => ?_)
      refine p_istore dL_law_786 (Nat.le_of_ble_eq_true rfl) rfl ?_
      refine p_aload_n dL_law_788 rfl ?_
      refine cV_Ir [] [] dL_law_789 yv_X11_thrown ml_L_152 (r := (RX11, TX11, 41)) rfl rfl (Nat.le_of_ble_eq_true rfl) rfl (Nat.le_of_ble_eq_true rfl) (cuL (x := 1) hI (by decide)) (suL (x := 6) hI (by decide)) rfl h (fun K h => s_X11_thrown hG h) (fun r789 h => ?_)
      refine p_iload dL_law_792 rfl ?_
      refine q_icmp_eq (tgt := 799) dL_law_794 (by decide) h (fun h => ?_) (fun h => ?_)
      · refine p_iload dL_law_799 rfl ?_
        refine q_if_ne (tgt := 823) dL_law_801 (by decide) h (fun h => ?_) (fun h => ?_)
        · refine p_goto (tgt := 3076) dL_law_823 (by decide) ?_
          refine p_iinc dL_law_3076 rfl (Nat.le_of_ble_eq_true rfl) rfl ?_
          refine p_goto (tgt := 23) dL_law_3079 (by decide) ?_
          exact p_widen (cuN (x := 1) hI (by decide)) (suN (x := 6) hI (by decide)) (p_weak (leL.same (leL.same (leL.same (leL.same (leL.same (leL.drop (leL.drop leL.nil))))))) (kl_inl (P := P_L l g) h _))
        · refine p_aload_n dL_law_804 rfl ?_
          refine p_iconst dL_law_805 ?_
          refine q_lald dL_law_806 rfl rfl h (fun h => ?_)
          refine p_iload dL_law_807 rfl ?_
          refine q_if_eq (tgt := 816) dL_law_809 (by decide) h (fun h => ?_) (fun h => ?_)
          · refine p_lconst 0 dL_law_816 (by decide) ?_
            refine q_lcmp_eq (tgt := 823) dL_law_817 dL_law_818 (by decide) h (fun h => ?_) (fun h => ?_)
            · refine p_goto (tgt := 3076) dL_law_823 (by decide) ?_
              refine p_iinc dL_law_3076 rfl (Nat.le_of_ble_eq_true rfl) rfl ?_
              refine p_goto (tgt := 23) dL_law_3079 (by decide) ?_
              exact p_widen (cuN (x := 1) hI (by decide)) (suN (x := 6) hI (by decide)) (p_weak (leL.same (leL.same (leL.same (leL.same (leL.same (leL.drop (leL.drop leL.nil))))))) (kl_inl (P := P_L l g) h _))
            · refine p_iconst dL_law_821 ?_
              have h := kl_inr h
              exact p_lawret dL_law_822 (cuL (x := 1) hI (by decide)) (suL (x := 6) hI (by decide)) (ok_some (K := K1) h)
          · refine p_lconst 1 dL_law_812 (by decide) ?_
            refine p_goto (tgt := 817) dL_law_813 (by decide) ?_
            refine q_lcmp_eq (tgt := 823) dL_law_817 dL_law_818 (by decide) h (fun h => ?_) (fun h => ?_)
            · refine p_goto (tgt := 3076) dL_law_823 (by decide) ?_
              refine p_iinc dL_law_3076 rfl (Nat.le_of_ble_eq_true rfl) rfl ?_
              refine p_goto (tgt := 23) dL_law_3079 (by decide) ?_
              exact p_widen (cuN (x := 1) hI (by decide)) (suN (x := 6) hI (by decide)) (p_weak (leL.same (leL.same (leL.same (leL.same (leL.same (leL.drop (leL.drop leL.nil))))))) (kl_inl (P := P_L l g) h _))
            · refine p_iconst dL_law_821 ?_
              have h := kl_inr h
              exact p_lawret dL_law_822 (cuL (x := 1) hI (by decide)) (suL (x := 6) hI (by decide)) (ok_some (K := K1) h)
      · refine p_iconst dL_law_797 ?_
        have h := kl_inr h
        exact p_lawret dL_law_798 (cuL (x := 1) hI (by decide)) (suL (x := 6) hI (by decide)) (ok_some (K := K1) h)
  · refine p_iconst dL_law_751 ?_
    refine p_goto (tgt := 756) dL_law_752 (by decide) ?_
    refine p_aload_n dL_law_756 rfl ?_
    refine cW_Ie [vR g 0, vI (xsG g (Int.toNat (s.1 + 1))), vI 1, vR g 102] [] dL_law_757 yw_L_flood ml_L_176 (Nat.le_of_ble_eq_true rfl) rfl (Nat.le_of_ble_eq_true rfl) (cuL2 (x := 0) (y := 1) hI (by decide)) (suL2 (x := 0) (y := 6) hI (by decide)) h (fun K h => s_L_flood hG h) (fun n r757 D757 h => ?_)
    refine p_istore dL_law_760 (Nat.le_of_ble_eq_true rfl) rfl ?_
    refine p_aload_n dL_law_762 rfl ?_
    refine p_aload_n dL_law_763 rfl ?_
    refine p_iload dL_law_764 rfl ?_
    refine p_iconst dL_law_766 ?_
    refine p_iadd dL_law_767 ?_
    refine q_sld hL dL_law_768 h (fun h => ?_)
    refine p_aload_n dL_law_769 rfl ?_
    refine p_iload dL_law_770 rfl ?_
    refine p_iconst dL_law_772 ?_
    refine p_iadd dL_law_773 ?_
    refine q_sld hL dL_law_774 h (fun h => ?_)
    refine q_if_eq (tgt := 782) dL_law_775 (by decide) h (fun h => ?_) (fun h => ?_)
    · refine p_iconst dL_law_782 ?_
      refine cV_Iw [vI (xsG g (Int.toNat (s.1 + 1))), vI 0] [] dL_law_783 yv_X11_flood ml_L_179 (r := (RX11, TX11, 41)) rfl rfl (Nat.le_of_ble_eq_true rfl) rfl (Nat.le_of_ble_eq_true rfl) (cuL (x := 1) hI (by decide)) (suL (x := 6) hI (by decide)) rfl h (fun K h => s_X11_flood hG h) (fun r783 D783 h => ?_)
      refine p_istore dL_law_786 (Nat.le_of_ble_eq_true rfl) rfl ?_
      refine p_aload_n dL_law_788 rfl ?_
      refine cV_Ir [] [] dL_law_789 yv_X11_thrown ml_L_152 (r := (RX11, TX11, 41)) rfl rfl (Nat.le_of_ble_eq_true rfl) rfl (Nat.le_of_ble_eq_true rfl) (cuL (x := 1) hI (by decide)) (suL (x := 6) hI (by decide)) rfl h (fun K h => s_X11_thrown hG h) (fun r789 h => ?_)
      refine p_iload dL_law_792 rfl ?_
      refine q_icmp_eq (tgt := 799) dL_law_794 (by decide) h (fun h => ?_) (fun h => ?_)
      · refine p_iload dL_law_799 rfl ?_
        refine q_if_ne (tgt := 823) dL_law_801 (by decide) h (fun h => ?_) (fun h => ?_)
        · refine p_goto (tgt := 3076) dL_law_823 (by decide) ?_
          refine p_iinc dL_law_3076 rfl (Nat.le_of_ble_eq_true rfl) rfl ?_
          refine p_goto (tgt := 23) dL_law_3079 (by decide) ?_
          exact p_widen (cuN (x := 1) hI (by decide)) (suN (x := 6) hI (by decide)) (p_weak (leL.same (leL.same (leL.same (leL.same (leL.same (leL.drop (leL.drop leL.nil))))))) (kl_inl (P := P_L l g) h _))
        · refine p_aload_n dL_law_804 rfl ?_
          refine p_iconst dL_law_805 ?_
          refine q_lald dL_law_806 rfl rfl h (fun h => ?_)
          refine p_iload dL_law_807 rfl ?_
          refine q_if_eq (tgt := 816) dL_law_809 (by decide) h (fun h => ?_) (fun h => ?_)
          · refine p_lconst 0 dL_law_816 (by decide) ?_
            refine q_lcmp_eq (tgt := 823) dL_law_817 dL_law_818 (by decide) h (fun h => ?_) (fun h => ?_)
            · refine p_goto (tgt := 3076) dL_law_823 (by decide) ?_
              refine p_iinc dL_law_3076 rfl (Nat.le_of_ble_eq_true rfl) rfl ?_
              refine p_goto (tgt := 23) dL_law_3079 (by decide) ?_
              exact p_widen (cuN (x := 1) hI (by decide)) (suN (x := 6) hI (by decide)) (p_weak (leL.same (leL.same (leL.same (leL.same (leL.same (leL.drop (leL.drop leL.nil))))))) (kl_inl (P := P_L l g) h _))
            · refine p_iconst dL_law_821 ?_
              have h := kl_inr h
              exact p_lawret dL_law_822 (cuL (x := 1) hI (by decide)) (suL (x := 6) hI (by decide)) (ok_some (K := K1) h)
          · refine p_lconst 1 dL_law_812 (by decide) ?_
            refine p_goto (tgt := 817) dL_law_813 (by decide) ?_
            refine q_lcmp_eq (tgt := 823) dL_law_817 dL_law_818 (by decide) h (fun h => ?_) (fun h => ?_)
            · refine p_goto (tgt := 3076) dL_law_823 (by decide) ?_
              refine p_iinc dL_law_3076 rfl (Nat.le_of_ble_eq_true rfl) rfl ?_
              refine p_goto (tgt := 23) dL_law_3079 (by decide) ?_
              exact p_widen (cuN (x := 1) hI (by decide)) (suN (x := 6) hI (by decide)) (p_weak (leL.same (leL.same (leL.same (leL.same (leL.same (leL.drop (leL.drop leL.nil))))))) (kl_inl (P := P_L l g) h _))
            · refine p_iconst dL_law_821 ?_
              have h := kl_inr h
              exact p_lawret dL_law_822 (cuL (x := 1) hI (by decide)) (suL (x := 6) hI (by decide)) (ok_some (K := K1) h)
      · refine p_iconst dL_law_797 ?_
        have h := kl_inr h
        exact p_lawret dL_law_798 (cuL (x := 1) hI (by decide)) (suL (x := 6) hI (by decide)) (ok_some (K := K1) h)
    · refine p_iconst dL_law_778 ?_
      refine p_goto (tgt := 783) dL_law_779 (by decide) ?_
      refine cV_Iw [vI (xsG g (Int.toNat (s.1 + 1))), vI 1] [] dL_law_783 yv_X11_flood ml_L_179 (r := (RX11, TX11, 41)) rfl rfl (Nat.le_of_ble_eq_true rfl) rfl (Nat.le_of_ble_eq_true rfl) (cuL (x := 1) hI (by decide)) (suL (x := 6) hI (by decide)) rfl h (fun K h => s_X11_flood hG h) (fun r783 D783 h => ?_)
      refine p_istore dL_law_786 (Nat.le_of_ble_eq_true rfl) rfl ?_
      refine p_aload_n dL_law_788 rfl ?_
      refine cV_Ir [] [] dL_law_789 yv_X11_thrown ml_L_152 (r := (RX11, TX11, 41)) rfl rfl (Nat.le_of_ble_eq_true rfl) rfl (Nat.le_of_ble_eq_true rfl) (cuL (x := 1) hI (by decide)) (suL (x := 6) hI (by decide)) rfl h (fun K h => s_X11_thrown hG h) (fun r789 h => ?_)
      refine p_iload dL_law_792 rfl ?_
      refine q_icmp_eq (tgt := 799) dL_law_794 (by decide) h (fun h => ?_) (fun h => ?_)
      · refine p_iload dL_law_799 rfl ?_
        refine q_if_ne (tgt := 823) dL_law_801 (by decide) h (fun h => ?_) (fun h => ?_)
        · refine p_goto (tgt := 3076) dL_law_823 (by decide) ?_
          refine p_iinc dL_law_3076 rfl (Nat.le_of_ble_eq_true rfl) rfl ?_
          refine p_goto (tgt := 23) dL_law_3079 (by decide) ?_
          exact p_widen (cuN (x := 1) hI (by decide)) (suN (x := 6) hI (by decide)) (p_weak (leL.same (leL.same (leL.same (leL.same (leL.same (leL.drop (leL.drop leL.nil))))))) (kl_inl (P := P_L l g) h _))
        · refine p_aload_n dL_law_804 rfl ?_
          refine p_iconst dL_law_805 ?_
          refine q_lald dL_law_806 rfl rfl h (fun h => ?_)
          refine p_iload dL_law_807 rfl ?_
          refine q_if_eq (tgt := 816) dL_law_809 (by decide) h (fun h => ?_) (fun h => ?_)
          · refine p_lconst 0 dL_law_816 (by decide) ?_
            refine q_lcmp_eq (tgt := 823) dL_law_817 dL_law_818 (by decide) h (fun h => ?_) (fun h => ?_)
            · refine p_goto (tgt := 3076) dL_law_823 (by decide) ?_
              refine p_iinc dL_law_3076 rfl (Nat.le_of_ble_eq_true rfl) rfl ?_
              refine p_goto (tgt := 23) dL_law_3079 (by decide) ?_
              exact p_widen (cuN (x := 1) hI (by decide)) (suN (x := 6) hI (by decide)) (p_weak (leL.same (leL.same (leL.same (leL.same (leL.same (leL.drop (leL.drop leL.nil))))))) (kl_inl (P := P_L l g) h _))
            · refine p_iconst dL_law_821 ?_
              have h := kl_inr h
              exact p_lawret dL_law_822 (cuL (x := 1) hI (by decide)) (suL (x := 6) hI (by decide)) (ok_some (K := K1) h)
          · refine p_lconst 1 dL_law_812 (by decide) ?_
            refine p_goto (tgt := 817) dL_law_813 (by decide) ?_
            refine q_lcmp_eq (tgt := 823) dL_law_817 dL_law_818 (by decide) h (fun h => ?_) (fun h => ?_)
            · refine p_goto (tgt := 3076) dL_law_823 (by decide) ?_
              refine p_iinc dL_law_3076 rfl (Nat.le_of_ble_eq_true rfl) rfl ?_
              refine p_goto (tgt := 23) dL_law_3079 (by decide) ?_
              exact p_widen (cuN (x := 1) hI (by decide)) (suN (x := 6) hI (by decide)) (p_weak (leL.same (leL.same (leL.same (leL.same (leL.same (leL.drop (leL.drop leL.nil))))))) (kl_inl (P := P_L l g) h _))
            · refine p_iconst dL_law_821 ?_
              have h := kl_inr h
              exact p_lawret dL_law_822 (cuL (x := 1) hI (by decide)) (suL (x := 6) hI (by decide)) (ok_some (K := K1) h)
      · refine p_iconst dL_law_797 ?_
        have h := kl_inr h
        exact p_lawret dL_law_798 (cuL (x := 1) hI (by decide)) (suL (x := 6) hI (by decide)) (ok_some (K := K1) h)
set_option maxRecDepth 100000 in
set_option maxHeartbeats 4000000 in
theorem x_L_c10 {l : Launch} {g : GH} (hG : G0 l g) (hL : g.2.2.2.2.2.1 ≤ 3584) {n : Nat} {s : Int × DT} (hI : 0 ≤ s.1 ∧ s.1 ≤ 3584) (h : ok (m_L_c10 (xsG g) g.2.2.2.2.2.1 s) (KL (P_L l g) K1)) : Px (E_L l g) 826 [some (.ref g.2.2.2.2.1), some (vR g 0), some (vR g 73), some (vR g 102), some (vI s.1), none, none] [] (LF n) s.2 (cuF s.1 + 0) (suF s.1 + 0) := by
  refine p_aload_n dL_law_826 rfl ?_
  refine p_aload_n dL_law_827 rfl ?_
  refine p_iload dL_law_828 rfl ?_
  refine p_iconst dL_law_830 ?_
  refine p_iadd dL_law_831 ?_
  refine q_sld hL dL_law_832 h (fun h => ?_)
  refine p_aload_n dL_law_833 rfl ?_
  refine cW_Ie [vR g 0, vI (xsG g (Int.toNat (s.1 + 1))), vR g 102] [] dL_law_834 yw_L_unit ml_L_180 (Nat.le_of_ble_eq_true rfl) rfl (Nat.le_of_ble_eq_true rfl) (cuL2 (x := 0) (y := 1) hI (by decide)) (suL2 (x := 0) (y := 6) hI (by decide)) h (fun K h => s_L_unit hG h) (fun n r834 D834 h => ?_)
  refine p_istore dL_law_837 (Nat.le_of_ble_eq_true rfl) rfl ?_
  refine p_aload_n dL_law_839 rfl ?_
  refine p_aload_n dL_law_840 rfl ?_
  refine p_iload dL_law_841 rfl ?_
  refine p_iconst dL_law_843 ?_
  refine p_iadd dL_law_844 ?_
  refine q_sld hL dL_law_845 h (fun h => ?_)
  refine cV_Iw [vI (xsG g (Int.toNat (s.1 + 1)))] [] dL_law_846 yv_X11_unit ml_L_183 (r := (RX11, TX11, 41)) rfl rfl (Nat.le_of_ble_eq_true rfl) rfl (Nat.le_of_ble_eq_true rfl) (cuL (x := 1) hI (by decide)) (suL (x := 6) hI (by decide)) rfl h (fun K h => s_X11_unit hG h) (fun r846 D846 h => ?_)
  refine p_istore dL_law_849 (Nat.le_of_ble_eq_true rfl) rfl ?_
  refine p_aload_n dL_law_851 rfl ?_
  refine cV_Ir [] [] dL_law_852 yv_X11_thrown ml_L_152 (r := (RX11, TX11, 41)) rfl rfl (Nat.le_of_ble_eq_true rfl) rfl (Nat.le_of_ble_eq_true rfl) (cuL (x := 1) hI (by decide)) (suL (x := 6) hI (by decide)) rfl h (fun K h => s_X11_thrown hG h) (fun r852 h => ?_)
  refine p_iload dL_law_855 rfl ?_
  refine q_icmp_eq (tgt := 862) dL_law_857 (by decide) h (fun h => ?_) (fun h => ?_)
  · refine p_iload dL_law_862 rfl ?_
    refine q_if_ne (tgt := 879) dL_law_864 (by decide) h (fun h => ?_) (fun h => ?_)
    · refine p_goto (tgt := 3076) dL_law_879 (by decide) ?_
      refine p_iinc dL_law_3076 rfl (Nat.le_of_ble_eq_true rfl) rfl ?_
      refine p_goto (tgt := 23) dL_law_3079 (by decide) ?_
      exact p_widen (cuN (x := 1) hI (by decide)) (suN (x := 6) hI (by decide)) (p_weak (leL.same (leL.same (leL.same (leL.same (leL.same (leL.drop (leL.drop leL.nil))))))) (kl_inl (P := P_L l g) h _))
    · refine p_aload_n dL_law_867 rfl ?_
      refine p_iconst dL_law_868 ?_
      refine q_lald dL_law_869 rfl rfl h (fun h => ?_)
      refine p_iload dL_law_870 rfl ?_
      refine q_i2l dL_law_872 h (fun h => ?_)
      refine q_lcmp_eq (tgt := 879) dL_law_873 dL_law_874 (by decide) h (fun h => ?_) (fun h => ?_)
      · refine p_goto (tgt := 3076) dL_law_879 (by decide) ?_
        refine p_iinc dL_law_3076 rfl (Nat.le_of_ble_eq_true rfl) rfl ?_
        refine p_goto (tgt := 23) dL_law_3079 (by decide) ?_
        exact p_widen (cuN (x := 1) hI (by decide)) (suN (x := 6) hI (by decide)) (p_weak (leL.same (leL.same (leL.same (leL.same (leL.same (leL.drop (leL.drop leL.nil))))))) (kl_inl (P := P_L l g) h _))
      · refine p_iconst dL_law_877 ?_
        have h := kl_inr h
        exact p_lawret dL_law_878 (cuL (x := 1) hI (by decide)) (suL (x := 6) hI (by decide)) (ok_some (K := K1) h)
  · refine p_iconst dL_law_860 ?_
    have h := kl_inr h
    exact p_lawret dL_law_861 (cuL (x := 1) hI (by decide)) (suL (x := 6) hI (by decide)) (ok_some (K := K1) h)
set_option maxRecDepth 100000 in
set_option maxHeartbeats 4000000 in
theorem x_L_c11 {l : Launch} {g : GH} (hG : G0 l g) (hL : g.2.2.2.2.2.1 ≤ 3584) {n : Nat} {s : Int × DT} (hI : 0 ≤ s.1 ∧ s.1 ≤ 3584) (h : ok (m_L_c11 (xsG g) g.2.2.2.2.2.1 s) (KL (P_L l g) K1)) : Px (E_L l g) 882 [some (.ref g.2.2.2.2.1), some (vR g 0), some (vR g 73), some (vR g 102), some (vI s.1), none, none] [] (LF n) s.2 (cuF s.1 + 0) (suF s.1 + 0) := by
  refine p_aload_n dL_law_882 rfl ?_
  refine p_aload_n dL_law_883 rfl ?_
  refine p_iload dL_law_884 rfl ?_
  refine p_iconst dL_law_886 ?_
  refine p_iadd dL_law_887 ?_
  refine q_sld hL dL_law_888 h (fun h => ?_)
  refine p_aload_n dL_law_889 rfl ?_
  refine cW_Ie [vR g 0, vI (xsG g (Int.toNat (s.1 + 1))), vR g 102] [] dL_law_890 yw_L_factor ml_L_184 (Nat.le_of_ble_eq_true rfl) rfl (Nat.le_of_ble_eq_true rfl) (cuL2 (x := 0) (y := 1) hI (by decide)) (suL2 (x := 0) (y := 6) hI (by decide)) h (fun K h => s_L_factor hG h) (fun n r890 D890 h => ?_)
  refine p_istore dL_law_893 (Nat.le_of_ble_eq_true rfl) rfl ?_
  refine p_aload_n dL_law_895 rfl ?_
  refine p_aload_n dL_law_896 rfl ?_
  refine p_iload dL_law_897 rfl ?_
  refine p_iconst dL_law_899 ?_
  refine p_iadd dL_law_900 ?_
  refine q_sld hL dL_law_901 h (fun h => ?_)
  refine cV_Iw [vI (xsG g (Int.toNat (s.1 + 1)))] [] dL_law_902 yv_X11_factor ml_L_186 (r := (RX11, TX11, 41)) rfl rfl (Nat.le_of_ble_eq_true rfl) rfl (Nat.le_of_ble_eq_true rfl) (cuL (x := 1) hI (by decide)) (suL (x := 6) hI (by decide)) rfl h (fun K h => s_X11_factor hG h) (fun r902 D902 h => ?_)
  refine p_istore dL_law_905 (Nat.le_of_ble_eq_true rfl) rfl ?_
  refine p_aload_n dL_law_907 rfl ?_
  refine cV_Ir [] [] dL_law_908 yv_X11_thrown ml_L_152 (r := (RX11, TX11, 41)) rfl rfl (Nat.le_of_ble_eq_true rfl) rfl (Nat.le_of_ble_eq_true rfl) (cuL (x := 1) hI (by decide)) (suL (x := 6) hI (by decide)) rfl h (fun K h => s_X11_thrown hG h) (fun r908 h => ?_)
  refine p_iload dL_law_911 rfl ?_
  refine q_icmp_eq (tgt := 918) dL_law_913 (by decide) h (fun h => ?_) (fun h => ?_)
  · refine p_iload dL_law_918 rfl ?_
    refine q_if_ne (tgt := 935) dL_law_920 (by decide) h (fun h => ?_) (fun h => ?_)
    · refine p_goto (tgt := 3076) dL_law_935 (by decide) ?_
      refine p_iinc dL_law_3076 rfl (Nat.le_of_ble_eq_true rfl) rfl ?_
      refine p_goto (tgt := 23) dL_law_3079 (by decide) ?_
      exact p_widen (cuN (x := 1) hI (by decide)) (suN (x := 6) hI (by decide)) (p_weak (leL.same (leL.same (leL.same (leL.same (leL.same (leL.drop (leL.drop leL.nil))))))) (kl_inl (P := P_L l g) h _))
    · refine p_aload_n dL_law_923 rfl ?_
      refine p_iconst dL_law_924 ?_
      refine q_lald dL_law_925 rfl rfl h (fun h => ?_)
      refine p_iload dL_law_926 rfl ?_
      refine q_i2l dL_law_928 h (fun h => ?_)
      refine q_lcmp_eq (tgt := 935) dL_law_929 dL_law_930 (by decide) h (fun h => ?_) (fun h => ?_)
      · refine p_goto (tgt := 3076) dL_law_935 (by decide) ?_
        refine p_iinc dL_law_3076 rfl (Nat.le_of_ble_eq_true rfl) rfl ?_
        refine p_goto (tgt := 23) dL_law_3079 (by decide) ?_
        exact p_widen (cuN (x := 1) hI (by decide)) (suN (x := 6) hI (by decide)) (p_weak (leL.same (leL.same (leL.same (leL.same (leL.same (leL.drop (leL.drop leL.nil))))))) (kl_inl (P := P_L l g) h _))
      · refine p_iconst dL_law_933 ?_
        have h := kl_inr h
        exact p_lawret dL_law_934 (cuL (x := 1) hI (by decide)) (suL (x := 6) hI (by decide)) (ok_some (K := K1) h)
  · refine p_iconst dL_law_916 ?_
    have h := kl_inr h
    exact p_lawret dL_law_917 (cuL (x := 1) hI (by decide)) (suL (x := 6) hI (by decide)) (ok_some (K := K1) h)
set_option maxRecDepth 100000 in
set_option maxHeartbeats 4000000 in
theorem x_L_c12 {l : Launch} {g : GH} (hG : G0 l g) (hL : g.2.2.2.2.2.1 ≤ 3584) {n : Nat} {s : Int × DT} (hI : 0 ≤ s.1 ∧ s.1 ≤ 3584) (h : ok (m_L_c12 (xsG g) g.2.2.2.2.2.1 s) (KL (P_L l g) K1)) : Px (E_L l g) 938 [some (.ref g.2.2.2.2.1), some (vR g 0), some (vR g 73), some (vR g 102), some (vI s.1), none, none] [] (LF n) s.2 (cuF s.1 + 0) (suF s.1 + 0) := by
  refine p_aload_n dL_law_938 rfl ?_
  refine p_aload_n dL_law_939 rfl ?_
  refine p_iload dL_law_940 rfl ?_
  refine p_iconst dL_law_942 ?_
  refine p_iadd dL_law_943 ?_
  refine q_sld hL dL_law_944 h (fun h => ?_)
  refine p_aload_n dL_law_945 rfl ?_
  refine p_iload dL_law_946 rfl ?_
  refine p_iconst dL_law_948 ?_
  refine p_iadd dL_law_949 ?_
  refine q_sld hL dL_law_950 h (fun h => ?_)
  refine p_aload_n dL_law_951 rfl ?_
  refine cW_Ie [vR g 0, vI (xsG g (Int.toNat (s.1 + 1))), vI (xsG g (Int.toNat (s.1 + 2))), vR g 102] [] dL_law_952 yw_L_order ml_L_187 (Nat.le_of_ble_eq_true rfl) rfl (Nat.le_of_ble_eq_true rfl) (cuL2 (x := 0) (y := 1) hI (by decide)) (suL2 (x := 0) (y := 6) hI (by decide)) h (fun K h => s_L_order hG h) (fun n r952 D952 h => ?_)
  refine p_istore dL_law_955 (Nat.le_of_ble_eq_true rfl) rfl ?_
  refine p_aload_n dL_law_957 rfl ?_
  refine p_aload_n dL_law_958 rfl ?_
  refine p_iload dL_law_959 rfl ?_
  refine p_iconst dL_law_961 ?_
  refine p_iadd dL_law_962 ?_
  refine q_sld hL dL_law_963 h (fun h => ?_)
  refine p_aload_n dL_law_964 rfl ?_
  refine p_iload dL_law_965 rfl ?_
  refine p_iconst dL_law_967 ?_
  refine p_iadd dL_law_968 ?_
  refine q_sld hL dL_law_969 h (fun h => ?_)
  refine cV_Iw [vI (xsG g (Int.toNat (s.1 + 1))), vI (xsG g (Int.toNat (s.1 + 2)))] [] dL_law_970 yv_X11_order ml_L_189 (r := (RX11, TX11, 41)) rfl rfl (Nat.le_of_ble_eq_true rfl) rfl (Nat.le_of_ble_eq_true rfl) (cuL (x := 1) hI (by decide)) (suL (x := 6) hI (by decide)) rfl h (fun K h => s_X11_order hG h) (fun r970 D970 h => ?_)
  refine p_istore dL_law_973 (Nat.le_of_ble_eq_true rfl) rfl ?_
  refine p_aload_n dL_law_975 rfl ?_
  refine cV_Ir [] [] dL_law_976 yv_X11_thrown ml_L_152 (r := (RX11, TX11, 41)) rfl rfl (Nat.le_of_ble_eq_true rfl) rfl (Nat.le_of_ble_eq_true rfl) (cuL (x := 1) hI (by decide)) (suL (x := 6) hI (by decide)) rfl h (fun K h => s_X11_thrown hG h) (fun r976 h => ?_)
  refine p_iload dL_law_979 rfl ?_
  refine q_icmp_eq (tgt := 986) dL_law_981 (by decide) h (fun h => ?_) (fun h => ?_)
  · refine p_iload dL_law_986 rfl ?_
    refine q_if_ne (tgt := 1003) dL_law_988 (by decide) h (fun h => ?_) (fun h => ?_)
    · refine p_goto (tgt := 3076) dL_law_1003 (by decide) ?_
      refine p_iinc dL_law_3076 rfl (Nat.le_of_ble_eq_true rfl) rfl ?_
      refine p_goto (tgt := 23) dL_law_3079 (by decide) ?_
      exact p_widen (cuN (x := 1) hI (by decide)) (suN (x := 6) hI (by decide)) (p_weak (leL.same (leL.same (leL.same (leL.same (leL.same (leL.drop (leL.drop leL.nil))))))) (kl_inl (P := P_L l g) h _))
    · refine p_aload_n dL_law_991 rfl ?_
      refine p_iconst dL_law_992 ?_
      refine q_lald dL_law_993 rfl rfl h (fun h => ?_)
      refine p_iload dL_law_994 rfl ?_
      refine q_i2l dL_law_996 h (fun h => ?_)
      refine q_lcmp_eq (tgt := 1003) dL_law_997 dL_law_998 (by decide) h (fun h => ?_) (fun h => ?_)
      · refine p_goto (tgt := 3076) dL_law_1003 (by decide) ?_
        refine p_iinc dL_law_3076 rfl (Nat.le_of_ble_eq_true rfl) rfl ?_
        refine p_goto (tgt := 23) dL_law_3079 (by decide) ?_
        exact p_widen (cuN (x := 1) hI (by decide)) (suN (x := 6) hI (by decide)) (p_weak (leL.same (leL.same (leL.same (leL.same (leL.same (leL.drop (leL.drop leL.nil))))))) (kl_inl (P := P_L l g) h _))
      · refine p_iconst dL_law_1001 ?_
        have h := kl_inr h
        exact p_lawret dL_law_1002 (cuL (x := 1) hI (by decide)) (suL (x := 6) hI (by decide)) (ok_some (K := K1) h)
  · refine p_iconst dL_law_984 ?_
    have h := kl_inr h
    exact p_lawret dL_law_985 (cuL (x := 1) hI (by decide)) (suL (x := 6) hI (by decide)) (ok_some (K := K1) h)
set_option maxRecDepth 100000 in
set_option maxHeartbeats 4000000 in
theorem x_L_c13 {l : Launch} {g : GH} (hG : G0 l g) (hL : g.2.2.2.2.2.1 ≤ 3584) {n : Nat} {s : Int × DT} (hI : 0 ≤ s.1 ∧ s.1 ≤ 3584) (h : ok (m_L_c13 (xsG g) g.2.2.2.2.2.1 s) (KL (P_L l g) K1)) : Px (E_L l g) 1006 [some (.ref g.2.2.2.2.1), some (vR g 0), some (vR g 73), some (vR g 102), some (vI s.1), none, none] [] (LF n) s.2 (cuF s.1 + 0) (suF s.1 + 0) := by
  refine p_aload_n dL_law_1006 rfl ?_
  refine p_aload_n dL_law_1007 rfl ?_
  refine p_iload dL_law_1008 rfl ?_
  refine p_iconst dL_law_1010 ?_
  refine p_iadd dL_law_1011 ?_
  refine q_sld hL dL_law_1012 h (fun h => ?_)
  refine p_aload_n dL_law_1013 rfl ?_
  refine cW_Ie [vR g 0, vI (xsG g (Int.toNat (s.1 + 1))), vR g 102] [] dL_law_1014 yw_L_stands ml_L_190 (Nat.le_of_ble_eq_true rfl) rfl (Nat.le_of_ble_eq_true rfl) (cuL2 (x := 0) (y := 1) hI (by decide)) (suL2 (x := 0) (y := 6) hI (by decide)) h (fun K h => s_L_stands hG h) (fun n r1014 D1014 h => ?_)
  refine p_istore dL_law_1017 (Nat.le_of_ble_eq_true rfl) rfl ?_
  refine p_aload_n dL_law_1019 rfl ?_
  refine p_aload_n dL_law_1020 rfl ?_
  refine p_iload dL_law_1021 rfl ?_
  refine p_iconst dL_law_1023 ?_
  refine p_iadd dL_law_1024 ?_
  refine q_sld hL dL_law_1025 h (fun h => ?_)
  refine cV_Iw [vI (xsG g (Int.toNat (s.1 + 1)))] [] dL_law_1026 yv_X11_stands ml_L_192 (r := (RX11, TX11, 41)) rfl rfl (Nat.le_of_ble_eq_true rfl) rfl (Nat.le_of_ble_eq_true rfl) (cuL (x := 1) hI (by decide)) (suL (x := 6) hI (by decide)) rfl h (fun K h => s_X11_stands hG h) (fun r1026 D1026 h => ?_)
  refine p_istore dL_law_1029 (Nat.le_of_ble_eq_true rfl) rfl ?_
  refine p_aload_n dL_law_1031 rfl ?_
  refine cV_Ir [] [] dL_law_1032 yv_X11_thrown ml_L_152 (r := (RX11, TX11, 41)) rfl rfl (Nat.le_of_ble_eq_true rfl) rfl (Nat.le_of_ble_eq_true rfl) (cuL (x := 1) hI (by decide)) (suL (x := 6) hI (by decide)) rfl h (fun K h => s_X11_thrown hG h) (fun r1032 h => ?_)
  refine p_iload dL_law_1035 rfl ?_
  refine q_icmp_eq (tgt := 1042) dL_law_1037 (by decide) h (fun h => ?_) (fun h => ?_)
  · refine p_iload dL_law_1042 rfl ?_
    refine q_if_ne (tgt := 1059) dL_law_1044 (by decide) h (fun h => ?_) (fun h => ?_)
    · refine p_goto (tgt := 3076) dL_law_1059 (by decide) ?_
      refine p_iinc dL_law_3076 rfl (Nat.le_of_ble_eq_true rfl) rfl ?_
      refine p_goto (tgt := 23) dL_law_3079 (by decide) ?_
      exact p_widen (cuN (x := 1) hI (by decide)) (suN (x := 6) hI (by decide)) (p_weak (leL.same (leL.same (leL.same (leL.same (leL.same (leL.drop (leL.drop leL.nil))))))) (kl_inl (P := P_L l g) h _))
    · refine p_aload_n dL_law_1047 rfl ?_
      refine p_iconst dL_law_1048 ?_
      refine q_lald dL_law_1049 rfl rfl h (fun h => ?_)
      refine p_iload dL_law_1050 rfl ?_
      refine q_i2l dL_law_1052 h (fun h => ?_)
      refine q_lcmp_eq (tgt := 1059) dL_law_1053 dL_law_1054 (by decide) h (fun h => ?_) (fun h => ?_)
      · refine p_goto (tgt := 3076) dL_law_1059 (by decide) ?_
        refine p_iinc dL_law_3076 rfl (Nat.le_of_ble_eq_true rfl) rfl ?_
        refine p_goto (tgt := 23) dL_law_3079 (by decide) ?_
        exact p_widen (cuN (x := 1) hI (by decide)) (suN (x := 6) hI (by decide)) (p_weak (leL.same (leL.same (leL.same (leL.same (leL.same (leL.drop (leL.drop leL.nil))))))) (kl_inl (P := P_L l g) h _))
      · refine p_iconst dL_law_1057 ?_
        have h := kl_inr h
        exact p_lawret dL_law_1058 (cuL (x := 1) hI (by decide)) (suL (x := 6) hI (by decide)) (ok_some (K := K1) h)
  · refine p_iconst dL_law_1040 ?_
    have h := kl_inr h
    exact p_lawret dL_law_1041 (cuL (x := 1) hI (by decide)) (suL (x := 6) hI (by decide)) (ok_some (K := K1) h)
set_option maxRecDepth 100000 in
set_option maxHeartbeats 4000000 in
theorem x_L_c14 {l : Launch} {g : GH} (hG : G0 l g) (hL : g.2.2.2.2.2.1 ≤ 3584) {n : Nat} {s : Int × DT} (hI : 0 ≤ s.1 ∧ s.1 ≤ 3584) (h : ok (m_L_c14 (xsG g) g.2.2.2.2.2.1 s) (KL (P_L l g) K1)) : Px (E_L l g) 1062 [some (.ref g.2.2.2.2.1), some (vR g 0), some (vR g 73), some (vR g 102), some (vI s.1), none, none] [] (LF n) s.2 (cuF s.1 + 0) (suF s.1 + 0) := by
  refine p_aload_n dL_law_1062 rfl ?_
  refine p_aload_n dL_law_1063 rfl ?_
  refine p_iload dL_law_1064 rfl ?_
  refine p_iconst dL_law_1066 ?_
  refine p_iadd dL_law_1067 ?_
  refine q_sld hL dL_law_1068 h (fun h => ?_)
  refine p_aload_n dL_law_1069 rfl ?_
  refine p_iload dL_law_1070 rfl ?_
  refine p_iconst dL_law_1072 ?_
  refine p_iadd dL_law_1073 ?_
  refine q_sld hL dL_law_1074 h (fun h => ?_)
  refine p_aload_n dL_law_1075 rfl ?_
  refine p_iload dL_law_1076 rfl ?_
  refine p_iconst dL_law_1078 ?_
  refine p_iadd dL_law_1079 ?_
  refine q_sld hL dL_law_1080 h (fun h => ?_)
  refine p_aload_n dL_law_1081 rfl ?_
  refine cW_Ie [vR g 0, vI (xsG g (Int.toNat (s.1 + 1))), vI (xsG g (Int.toNat (s.1 + 2))), vI (xsG g (Int.toNat (s.1 + 3))), vR g 102] [] dL_law_1082 yw_L_dots ml_L_193 (Nat.le_of_ble_eq_true rfl) rfl (Nat.le_of_ble_eq_true rfl) (cuL2 (x := 0) (y := 3) hI (by decide)) (suL2 (x := 0) (y := 18) hI (by decide)) h (fun K h => s_L_dots hG h) (fun n r1082 D1082 h => ?_)
  refine p_istore dL_law_1085 (Nat.le_of_ble_eq_true rfl) rfl ?_
  refine p_aload_n dL_law_1087 rfl ?_
  refine p_aload_n dL_law_1088 rfl ?_
  refine p_iload dL_law_1089 rfl ?_
  refine p_iconst dL_law_1091 ?_
  refine p_iadd dL_law_1092 ?_
  refine q_sld hL dL_law_1093 h (fun h => ?_)
  refine p_aload_n dL_law_1094 rfl ?_
  refine p_iload dL_law_1095 rfl ?_
  refine p_iconst dL_law_1097 ?_
  refine p_iadd dL_law_1098 ?_
  refine q_sld hL dL_law_1099 h (fun h => ?_)
  refine p_aload_n dL_law_1100 rfl ?_
  refine p_iload dL_law_1101 rfl ?_
  refine p_iconst dL_law_1103 ?_
  refine p_iadd dL_law_1104 ?_
  refine q_sld hL dL_law_1105 h (fun h => ?_)
  refine cV_Iw [vI (xsG g (Int.toNat (s.1 + 1))), vI (xsG g (Int.toNat (s.1 + 2))), vI (xsG g (Int.toNat (s.1 + 3)))] [] dL_law_1106 yv_X11_dots ml_L_195 (r := (RX11, TX11, 41)) rfl rfl (Nat.le_of_ble_eq_true rfl) rfl (Nat.le_of_ble_eq_true rfl) (cuL (x := 3) hI (by decide)) (suL (x := 18) hI (by decide)) rfl h (fun K h => s_X11_dots hG h) (fun r1106 D1106 h => ?_)
  refine p_istore dL_law_1109 (Nat.le_of_ble_eq_true rfl) rfl ?_
  refine p_aload_n dL_law_1111 rfl ?_
  refine cV_Ir [] [] dL_law_1112 yv_X11_thrown ml_L_152 (r := (RX11, TX11, 41)) rfl rfl (Nat.le_of_ble_eq_true rfl) rfl (Nat.le_of_ble_eq_true rfl) (cuL (x := 3) hI (by decide)) (suL (x := 18) hI (by decide)) rfl h (fun K h => s_X11_thrown hG h) (fun r1112 h => ?_)
  refine p_iload dL_law_1115 rfl ?_
  refine q_icmp_eq (tgt := 1122) dL_law_1117 (by decide) h (fun h => ?_) (fun h => ?_)
  · refine p_iload dL_law_1122 rfl ?_
    refine q_if_ne (tgt := 1139) dL_law_1124 (by decide) h (fun h => ?_) (fun h => ?_)
    · refine p_goto (tgt := 3076) dL_law_1139 (by decide) ?_
      refine p_iinc dL_law_3076 rfl (Nat.le_of_ble_eq_true rfl) rfl ?_
      refine p_goto (tgt := 23) dL_law_3079 (by decide) ?_
      exact p_widen (cuN (x := 3) hI (by decide)) (suN (x := 18) hI (by decide)) (p_weak (leL.same (leL.same (leL.same (leL.same (leL.same (leL.drop (leL.drop leL.nil))))))) (kl_inl (P := P_L l g) h _))
    · refine p_aload_n dL_law_1127 rfl ?_
      refine p_iconst dL_law_1128 ?_
      refine q_lald dL_law_1129 rfl rfl h (fun h => ?_)
      refine p_iload dL_law_1130 rfl ?_
      refine q_i2l dL_law_1132 h (fun h => ?_)
      refine q_lcmp_eq (tgt := 1139) dL_law_1133 dL_law_1134 (by decide) h (fun h => ?_) (fun h => ?_)
      · refine p_goto (tgt := 3076) dL_law_1139 (by decide) ?_
        refine p_iinc dL_law_3076 rfl (Nat.le_of_ble_eq_true rfl) rfl ?_
        refine p_goto (tgt := 23) dL_law_3079 (by decide) ?_
        exact p_widen (cuN (x := 3) hI (by decide)) (suN (x := 18) hI (by decide)) (p_weak (leL.same (leL.same (leL.same (leL.same (leL.same (leL.drop (leL.drop leL.nil))))))) (kl_inl (P := P_L l g) h _))
      · refine p_iconst dL_law_1137 ?_
        have h := kl_inr h
        exact p_lawret dL_law_1138 (cuL (x := 3) hI (by decide)) (suL (x := 18) hI (by decide)) (ok_some (K := K1) h)
  · refine p_iconst dL_law_1120 ?_
    have h := kl_inr h
    exact p_lawret dL_law_1121 (cuL (x := 3) hI (by decide)) (suL (x := 18) hI (by decide)) (ok_some (K := K1) h)
set_option maxRecDepth 100000 in
set_option maxHeartbeats 4000000 in
theorem x_L_c15 {l : Launch} {g : GH} (hG : G0 l g) (hL : g.2.2.2.2.2.1 ≤ 3584) {n : Nat} {s : Int × DT} (hI : 0 ≤ s.1 ∧ s.1 ≤ 3584) (h : ok (m_L_c15 (xsG g) g.2.2.2.2.2.1 s) (KL (P_L l g) K1)) : Px (E_L l g) 1142 [some (.ref g.2.2.2.2.1), some (vR g 0), some (vR g 73), some (vR g 102), some (vI s.1), none, none] [] (LF n) s.2 (cuF s.1 + 0) (suF s.1 + 0) := by
  refine p_aload_n dL_law_1142 rfl ?_
  refine p_aload_n dL_law_1143 rfl ?_
  refine p_iload dL_law_1144 rfl ?_
  refine p_iconst dL_law_1146 ?_
  refine p_iadd dL_law_1147 ?_
  refine q_sld hL dL_law_1148 h (fun h => ?_)
  refine p_aload_n dL_law_1149 rfl ?_
  refine p_iload dL_law_1150 rfl ?_
  refine p_iconst dL_law_1152 ?_
  refine p_iadd dL_law_1153 ?_
  refine q_sld hL dL_law_1154 h (fun h => ?_)
  refine p_aload_n dL_law_1155 rfl ?_
  refine p_iload dL_law_1156 rfl ?_
  refine p_iconst dL_law_1158 ?_
  refine p_iadd dL_law_1159 ?_
  refine q_sld hL dL_law_1160 h (fun h => ?_)
  refine p_aload_n dL_law_1161 rfl ?_
  refine cW_Ie [vR g 0, vI (xsG g (Int.toNat (s.1 + 1))), vI (xsG g (Int.toNat (s.1 + 2))), vI (xsG g (Int.toNat (s.1 + 3))), vR g 102] [] dL_law_1162 yw_L_carried ml_L_196 (Nat.le_of_ble_eq_true rfl) rfl (Nat.le_of_ble_eq_true rfl) (cuL2 (x := 0) (y := 3) hI (by decide)) (suL2 (x := 0) (y := 18) hI (by decide)) h (fun K h => s_L_carried hG h) (fun n r1162 D1162 h => ?_)
  refine p_istore dL_law_1165 (Nat.le_of_ble_eq_true rfl) rfl ?_
  refine p_aload_n dL_law_1167 rfl ?_
  refine p_aload_n dL_law_1168 rfl ?_
  refine p_iload dL_law_1169 rfl ?_
  refine p_iconst dL_law_1171 ?_
  refine p_iadd dL_law_1172 ?_
  refine q_sld hL dL_law_1173 h (fun h => ?_)
  refine p_aload_n dL_law_1174 rfl ?_
  refine p_iload dL_law_1175 rfl ?_
  refine p_iconst dL_law_1177 ?_
  refine p_iadd dL_law_1178 ?_
  refine q_sld hL dL_law_1179 h (fun h => ?_)
  refine p_aload_n dL_law_1180 rfl ?_
  refine p_iload dL_law_1181 rfl ?_
  refine p_iconst dL_law_1183 ?_
  refine p_iadd dL_law_1184 ?_
  refine q_sld hL dL_law_1185 h (fun h => ?_)
  refine cV_Iw [vI (xsG g (Int.toNat (s.1 + 1))), vI (xsG g (Int.toNat (s.1 + 2))), vI (xsG g (Int.toNat (s.1 + 3)))] [] dL_law_1186 yv_X11_carried ml_L_198 (r := (RX11, TX11, 41)) rfl rfl (Nat.le_of_ble_eq_true rfl) rfl (Nat.le_of_ble_eq_true rfl) (cuL (x := 3) hI (by decide)) (suL (x := 18) hI (by decide)) rfl h (fun K h => s_X11_carried hG h) (fun r1186 D1186 h => ?_)
  refine p_istore dL_law_1189 (Nat.le_of_ble_eq_true rfl) rfl ?_
  refine p_aload_n dL_law_1191 rfl ?_
  refine cV_Ir [] [] dL_law_1192 yv_X11_thrown ml_L_152 (r := (RX11, TX11, 41)) rfl rfl (Nat.le_of_ble_eq_true rfl) rfl (Nat.le_of_ble_eq_true rfl) (cuL (x := 3) hI (by decide)) (suL (x := 18) hI (by decide)) rfl h (fun K h => s_X11_thrown hG h) (fun r1192 h => ?_)
  refine p_iload dL_law_1195 rfl ?_
  refine q_icmp_eq (tgt := 1202) dL_law_1197 (by decide) h (fun h => ?_) (fun h => ?_)
  · refine p_iload dL_law_1202 rfl ?_
    refine q_if_ne (tgt := 1219) dL_law_1204 (by decide) h (fun h => ?_) (fun h => ?_)
    · refine p_goto (tgt := 3076) dL_law_1219 (by decide) ?_
      refine p_iinc dL_law_3076 rfl (Nat.le_of_ble_eq_true rfl) rfl ?_
      refine p_goto (tgt := 23) dL_law_3079 (by decide) ?_
      exact p_widen (cuN (x := 3) hI (by decide)) (suN (x := 18) hI (by decide)) (p_weak (leL.same (leL.same (leL.same (leL.same (leL.same (leL.drop (leL.drop leL.nil))))))) (kl_inl (P := P_L l g) h _))
    · refine p_aload_n dL_law_1207 rfl ?_
      refine p_iconst dL_law_1208 ?_
      refine q_lald dL_law_1209 rfl rfl h (fun h => ?_)
      refine p_iload dL_law_1210 rfl ?_
      refine q_i2l dL_law_1212 h (fun h => ?_)
      refine q_lcmp_eq (tgt := 1219) dL_law_1213 dL_law_1214 (by decide) h (fun h => ?_) (fun h => ?_)
      · refine p_goto (tgt := 3076) dL_law_1219 (by decide) ?_
        refine p_iinc dL_law_3076 rfl (Nat.le_of_ble_eq_true rfl) rfl ?_
        refine p_goto (tgt := 23) dL_law_3079 (by decide) ?_
        exact p_widen (cuN (x := 3) hI (by decide)) (suN (x := 18) hI (by decide)) (p_weak (leL.same (leL.same (leL.same (leL.same (leL.same (leL.drop (leL.drop leL.nil))))))) (kl_inl (P := P_L l g) h _))
      · refine p_iconst dL_law_1217 ?_
        have h := kl_inr h
        exact p_lawret dL_law_1218 (cuL (x := 3) hI (by decide)) (suL (x := 18) hI (by decide)) (ok_some (K := K1) h)
  · refine p_iconst dL_law_1200 ?_
    have h := kl_inr h
    exact p_lawret dL_law_1201 (cuL (x := 3) hI (by decide)) (suL (x := 18) hI (by decide)) (ok_some (K := K1) h)
set_option maxRecDepth 100000 in
set_option maxHeartbeats 4000000 in
theorem x_L_c16 {l : Launch} {g : GH} (hG : G0 l g) (hL : g.2.2.2.2.2.1 ≤ 3584) {n : Nat} {s : Int × DT} (hI : 0 ≤ s.1 ∧ s.1 ≤ 3584) (h : ok (m_L_c16 (xsG g) g.2.2.2.2.2.1 s) (KL (P_L l g) K1)) : Px (E_L l g) 1222 [some (.ref g.2.2.2.2.1), some (vR g 0), some (vR g 73), some (vR g 102), some (vI s.1), none, none] [] (LF n) s.2 (cuF s.1 + 0) (suF s.1 + 0) := by
  refine p_aload_n dL_law_1222 rfl ?_
  refine p_aload_n dL_law_1223 rfl ?_
  refine p_iload dL_law_1224 rfl ?_
  refine p_iconst dL_law_1226 ?_
  refine p_iadd dL_law_1227 ?_
  refine q_sld hL dL_law_1228 h (fun h => ?_)
  refine p_aload_n dL_law_1229 rfl ?_
  refine p_iload dL_law_1230 rfl ?_
  refine p_iconst dL_law_1232 ?_
  refine p_iadd dL_law_1233 ?_
  refine q_sld hL dL_law_1234 h (fun h => ?_)
  refine p_aload_n dL_law_1235 rfl ?_
  refine cW_Ie [vR g 0, vI (xsG g (Int.toNat (s.1 + 1))), vI (xsG g (Int.toNat (s.1 + 2))), vR g 102] [] dL_law_1236 yw_L_left ml_L_199 (Nat.le_of_ble_eq_true rfl) rfl (Nat.le_of_ble_eq_true rfl) (cuL2 (x := 0) (y := 2) hI (by decide)) (suL2 (x := 0) (y := 12) hI (by decide)) h (fun K h => s_L_left hG h) (fun n r1236 D1236 h => ?_)
  refine p_istore dL_law_1239 (Nat.le_of_ble_eq_true rfl) rfl ?_
  refine p_aload_n dL_law_1241 rfl ?_
  refine p_aload_n dL_law_1242 rfl ?_
  refine p_iload dL_law_1243 rfl ?_
  refine p_iconst dL_law_1245 ?_
  refine p_iadd dL_law_1246 ?_
  refine q_sld hL dL_law_1247 h (fun h => ?_)
  refine p_aload_n dL_law_1248 rfl ?_
  refine p_iload dL_law_1249 rfl ?_
  refine p_iconst dL_law_1251 ?_
  refine p_iadd dL_law_1252 ?_
  refine q_sld hL dL_law_1253 h (fun h => ?_)
  refine cV_Iw [vI (xsG g (Int.toNat (s.1 + 1))), vI (xsG g (Int.toNat (s.1 + 2)))] [] dL_law_1254 yv_X11_left ml_L_201 (r := (RX11, TX11, 41)) rfl rfl (Nat.le_of_ble_eq_true rfl) rfl (Nat.le_of_ble_eq_true rfl) (cuL (x := 2) hI (by decide)) (suL (x := 12) hI (by decide)) rfl h (fun K h => s_X11_left hG h) (fun r1254 D1254 h => ?_)
  refine p_istore dL_law_1257 (Nat.le_of_ble_eq_true rfl) rfl ?_
  refine p_aload_n dL_law_1259 rfl ?_
  refine cV_Ir [] [] dL_law_1260 yv_X11_thrown ml_L_152 (r := (RX11, TX11, 41)) rfl rfl (Nat.le_of_ble_eq_true rfl) rfl (Nat.le_of_ble_eq_true rfl) (cuL (x := 2) hI (by decide)) (suL (x := 12) hI (by decide)) rfl h (fun K h => s_X11_thrown hG h) (fun r1260 h => ?_)
  refine p_iload dL_law_1263 rfl ?_
  refine q_icmp_eq (tgt := 1270) dL_law_1265 (by decide) h (fun h => ?_) (fun h => ?_)
  · refine p_iload dL_law_1270 rfl ?_
    refine q_if_ne (tgt := 1287) dL_law_1272 (by decide) h (fun h => ?_) (fun h => ?_)
    · refine p_goto (tgt := 3076) dL_law_1287 (by decide) ?_
      refine p_iinc dL_law_3076 rfl (Nat.le_of_ble_eq_true rfl) rfl ?_
      refine p_goto (tgt := 23) dL_law_3079 (by decide) ?_
      exact p_widen (cuN (x := 2) hI (by decide)) (suN (x := 12) hI (by decide)) (p_weak (leL.same (leL.same (leL.same (leL.same (leL.same (leL.drop (leL.drop leL.nil))))))) (kl_inl (P := P_L l g) h _))
    · refine p_aload_n dL_law_1275 rfl ?_
      refine p_iconst dL_law_1276 ?_
      refine q_lald dL_law_1277 rfl rfl h (fun h => ?_)
      refine p_iload dL_law_1278 rfl ?_
      refine q_i2l dL_law_1280 h (fun h => ?_)
      refine q_lcmp_eq (tgt := 1287) dL_law_1281 dL_law_1282 (by decide) h (fun h => ?_) (fun h => ?_)
      · refine p_goto (tgt := 3076) dL_law_1287 (by decide) ?_
        refine p_iinc dL_law_3076 rfl (Nat.le_of_ble_eq_true rfl) rfl ?_
        refine p_goto (tgt := 23) dL_law_3079 (by decide) ?_
        exact p_widen (cuN (x := 2) hI (by decide)) (suN (x := 12) hI (by decide)) (p_weak (leL.same (leL.same (leL.same (leL.same (leL.same (leL.drop (leL.drop leL.nil))))))) (kl_inl (P := P_L l g) h _))
      · refine p_iconst dL_law_1285 ?_
        have h := kl_inr h
        exact p_lawret dL_law_1286 (cuL (x := 2) hI (by decide)) (suL (x := 12) hI (by decide)) (ok_some (K := K1) h)
  · refine p_iconst dL_law_1268 ?_
    have h := kl_inr h
    exact p_lawret dL_law_1269 (cuL (x := 2) hI (by decide)) (suL (x := 12) hI (by decide)) (ok_some (K := K1) h)
set_option maxRecDepth 100000 in
set_option maxHeartbeats 4000000 in
theorem x_L_c17 {l : Launch} {g : GH} (hG : G0 l g) (hL : g.2.2.2.2.2.1 ≤ 3584) {n : Nat} {s : Int × DT} (hI : 0 ≤ s.1 ∧ s.1 ≤ 3584) (h : ok (m_L_c17 (xsG g) g.2.2.2.2.2.1 s) (KL (P_L l g) K1)) : Px (E_L l g) 1290 [some (.ref g.2.2.2.2.1), some (vR g 0), some (vR g 73), some (vR g 102), some (vI s.1), none, none] [] (LF n) s.2 (cuF s.1 + 0) (suF s.1 + 0) := by
  refine p_aload_n dL_law_1290 rfl ?_
  refine p_aload_n dL_law_1291 rfl ?_
  refine p_iload dL_law_1292 rfl ?_
  refine p_iconst dL_law_1294 ?_
  refine p_iadd dL_law_1295 ?_
  refine q_sld hL dL_law_1296 h (fun h => ?_)
  refine p_aload_n dL_law_1297 rfl ?_
  refine p_iload dL_law_1298 rfl ?_
  refine p_iconst dL_law_1300 ?_
  refine p_iadd dL_law_1301 ?_
  refine q_sld hL dL_law_1302 h (fun h => ?_)
  refine p_aload_n dL_law_1303 rfl ?_
  refine cW_Ie [vR g 0, vI (xsG g (Int.toNat (s.1 + 1))), vI (xsG g (Int.toNat (s.1 + 2))), vR g 102] [] dL_law_1304 yw_L_all ml_L_202 (Nat.le_of_ble_eq_true rfl) rfl (Nat.le_of_ble_eq_true rfl) (cuL2 (x := 0) (y := 2) hI (by decide)) (suL2 (x := 0) (y := 12) hI (by decide)) h (fun K h => s_L_all hG h) (fun n r1304 D1304 h => ?_)
  refine p_istore dL_law_1307 (Nat.le_of_ble_eq_true rfl) rfl ?_
  refine p_aload_n dL_law_1309 rfl ?_
  refine p_aload_n dL_law_1310 rfl ?_
  refine p_iload dL_law_1311 rfl ?_
  refine p_iconst dL_law_1313 ?_
  refine p_iadd dL_law_1314 ?_
  refine q_sld hL dL_law_1315 h (fun h => ?_)
  refine p_aload_n dL_law_1316 rfl ?_
  refine p_iload dL_law_1317 rfl ?_
  refine p_iconst dL_law_1319 ?_
  refine p_iadd dL_law_1320 ?_
  refine q_sld hL dL_law_1321 h (fun h => ?_)
  refine cV_Iw [vI (xsG g (Int.toNat (s.1 + 1))), vI (xsG g (Int.toNat (s.1 + 2)))] [] dL_law_1322 yv_X11_all ml_L_204 (r := (RX11, TX11, 41)) rfl rfl (Nat.le_of_ble_eq_true rfl) rfl (Nat.le_of_ble_eq_true rfl) (cuL (x := 2) hI (by decide)) (suL (x := 12) hI (by decide)) rfl h (fun K h => s_X11_all hG h) (fun r1322 D1322 h => ?_)
  refine p_istore dL_law_1325 (Nat.le_of_ble_eq_true rfl) rfl ?_
  refine p_aload_n dL_law_1327 rfl ?_
  refine cV_Ir [] [] dL_law_1328 yv_X11_thrown ml_L_152 (r := (RX11, TX11, 41)) rfl rfl (Nat.le_of_ble_eq_true rfl) rfl (Nat.le_of_ble_eq_true rfl) (cuL (x := 2) hI (by decide)) (suL (x := 12) hI (by decide)) rfl h (fun K h => s_X11_thrown hG h) (fun r1328 h => ?_)
  refine p_iload dL_law_1331 rfl ?_
  refine q_icmp_eq (tgt := 1338) dL_law_1333 (by decide) h (fun h => ?_) (fun h => ?_)
  · refine p_iload dL_law_1338 rfl ?_
    refine q_if_ne (tgt := 1355) dL_law_1340 (by decide) h (fun h => ?_) (fun h => ?_)
    · refine p_goto (tgt := 3076) dL_law_1355 (by decide) ?_
      refine p_iinc dL_law_3076 rfl (Nat.le_of_ble_eq_true rfl) rfl ?_
      refine p_goto (tgt := 23) dL_law_3079 (by decide) ?_
      exact p_widen (cuN (x := 2) hI (by decide)) (suN (x := 12) hI (by decide)) (p_weak (leL.same (leL.same (leL.same (leL.same (leL.same (leL.drop (leL.drop leL.nil))))))) (kl_inl (P := P_L l g) h _))
    · refine p_aload_n dL_law_1343 rfl ?_
      refine p_iconst dL_law_1344 ?_
      refine q_lald dL_law_1345 rfl rfl h (fun h => ?_)
      refine p_iload dL_law_1346 rfl ?_
      refine q_i2l dL_law_1348 h (fun h => ?_)
      refine q_lcmp_eq (tgt := 1355) dL_law_1349 dL_law_1350 (by decide) h (fun h => ?_) (fun h => ?_)
      · refine p_goto (tgt := 3076) dL_law_1355 (by decide) ?_
        refine p_iinc dL_law_3076 rfl (Nat.le_of_ble_eq_true rfl) rfl ?_
        refine p_goto (tgt := 23) dL_law_3079 (by decide) ?_
        exact p_widen (cuN (x := 2) hI (by decide)) (suN (x := 12) hI (by decide)) (p_weak (leL.same (leL.same (leL.same (leL.same (leL.same (leL.drop (leL.drop leL.nil))))))) (kl_inl (P := P_L l g) h _))
      · refine p_iconst dL_law_1353 ?_
        have h := kl_inr h
        exact p_lawret dL_law_1354 (cuL (x := 2) hI (by decide)) (suL (x := 12) hI (by decide)) (ok_some (K := K1) h)
  · refine p_iconst dL_law_1336 ?_
    have h := kl_inr h
    exact p_lawret dL_law_1337 (cuL (x := 2) hI (by decide)) (suL (x := 12) hI (by decide)) (ok_some (K := K1) h)
set_option maxRecDepth 100000 in
set_option maxHeartbeats 4000000 in
theorem x_L_c18 {l : Launch} {g : GH} (hG : G0 l g) (hL : g.2.2.2.2.2.1 ≤ 3584) {n : Nat} {s : Int × DT} (hI : 0 ≤ s.1 ∧ s.1 ≤ 3584) (h : ok (m_L_c18 (xsG g) g.2.2.2.2.2.1 s) (KL (P_L l g) K1)) : Px (E_L l g) 1358 [some (.ref g.2.2.2.2.1), some (vR g 0), some (vR g 73), some (vR g 102), some (vI s.1), none, none] [] (LF n) s.2 (cuF s.1 + 0) (suF s.1 + 0) := by
  refine p_aload_n dL_law_1358 rfl ?_
  refine p_aload_n dL_law_1359 rfl ?_
  refine p_iload dL_law_1360 rfl ?_
  refine p_iconst dL_law_1362 ?_
  refine p_iadd dL_law_1363 ?_
  refine q_sld hL dL_law_1364 h (fun h => ?_)
  refine p_aload_n dL_law_1365 rfl ?_
  refine p_iload dL_law_1366 rfl ?_
  refine p_iconst dL_law_1368 ?_
  refine p_iadd dL_law_1369 ?_
  refine q_sld hL dL_law_1370 h (fun h => ?_)
  refine p_aload_n dL_law_1371 rfl ?_
  refine p_iload dL_law_1372 rfl ?_
  refine p_iconst dL_law_1374 ?_
  refine p_iadd dL_law_1375 ?_
  refine q_sld hL dL_law_1376 h (fun h => ?_)
  refine p_aload_n dL_law_1377 rfl ?_
  refine p_iload dL_law_1378 rfl ?_
  refine p_iconst dL_law_1380 ?_
  refine p_iadd dL_law_1381 ?_
  refine q_sld hL dL_law_1382 h (fun h => ?_)
  refine p_aload_n dL_law_1383 rfl ?_
  refine cW_Ie [vR g 0, vI (xsG g (Int.toNat (s.1 + 1))), vI (xsG g (Int.toNat (s.1 + 2))), vI (xsG g (Int.toNat (s.1 + 3))), vI (xsG g (Int.toNat (s.1 + 4))), vR g 102] [] dL_law_1384 yw_L_dot ml_L_205 (Nat.le_of_ble_eq_true rfl) rfl (Nat.le_of_ble_eq_true rfl) (cuL2 (x := 0) (y := 4) hI (by decide)) (suL2 (x := 0) (y := 24) hI (by decide)) h (fun K h => s_L_dot hG h) (fun n r1384 D1384 h => ?_)
  refine p_istore dL_law_1387 (Nat.le_of_ble_eq_true rfl) rfl ?_
  refine p_aload_n dL_law_1389 rfl ?_
  refine p_aload_n dL_law_1390 rfl ?_
  refine p_iload dL_law_1391 rfl ?_
  refine p_iconst dL_law_1393 ?_
  refine p_iadd dL_law_1394 ?_
  refine q_sld hL dL_law_1395 h (fun h => ?_)
  refine p_aload_n dL_law_1396 rfl ?_
  refine p_iload dL_law_1397 rfl ?_
  refine p_iconst dL_law_1399 ?_
  refine p_iadd dL_law_1400 ?_
  refine q_sld hL dL_law_1401 h (fun h => ?_)
  refine p_aload_n dL_law_1402 rfl ?_
  refine p_iload dL_law_1403 rfl ?_
  refine p_iconst dL_law_1405 ?_
  refine p_iadd dL_law_1406 ?_
  refine q_sld hL dL_law_1407 h (fun h => ?_)
  refine p_aload_n dL_law_1408 rfl ?_
  refine p_iload dL_law_1409 rfl ?_
  refine p_iconst dL_law_1411 ?_
  refine p_iadd dL_law_1412 ?_
  refine q_sld hL dL_law_1413 h (fun h => ?_)
  refine cV_Iw [vI (xsG g (Int.toNat (s.1 + 1))), vI (xsG g (Int.toNat (s.1 + 2))), vI (xsG g (Int.toNat (s.1 + 3))), vI (xsG g (Int.toNat (s.1 + 4)))] [] dL_law_1414 yv_X11_dot ml_L_208 (r := (RX11, TX11, 41)) rfl rfl (Nat.le_of_ble_eq_true rfl) rfl (Nat.le_of_ble_eq_true rfl) (cuL (x := 4) hI (by decide)) (suL (x := 24) hI (by decide)) rfl h (fun K h => s_X11_dot hG h) (fun r1414 D1414 h => ?_)
  refine p_istore dL_law_1417 (Nat.le_of_ble_eq_true rfl) rfl ?_
  refine p_aload_n dL_law_1419 rfl ?_
  refine cV_Ir [] [] dL_law_1420 yv_X11_thrown ml_L_152 (r := (RX11, TX11, 41)) rfl rfl (Nat.le_of_ble_eq_true rfl) rfl (Nat.le_of_ble_eq_true rfl) (cuL (x := 4) hI (by decide)) (suL (x := 24) hI (by decide)) rfl h (fun K h => s_X11_thrown hG h) (fun r1420 h => ?_)
  refine p_iload dL_law_1423 rfl ?_
  refine q_icmp_eq (tgt := 1430) dL_law_1425 (by decide) h (fun h => ?_) (fun h => ?_)
  · refine p_iload dL_law_1430 rfl ?_
    refine q_if_ne (tgt := 1447) dL_law_1432 (by decide) h (fun h => ?_) (fun h => ?_)
    · refine p_goto (tgt := 3076) dL_law_1447 (by decide) ?_
      refine p_iinc dL_law_3076 rfl (Nat.le_of_ble_eq_true rfl) rfl ?_
      refine p_goto (tgt := 23) dL_law_3079 (by decide) ?_
      exact p_widen (cuN (x := 4) hI (by decide)) (suN (x := 24) hI (by decide)) (p_weak (leL.same (leL.same (leL.same (leL.same (leL.same (leL.drop (leL.drop leL.nil))))))) (kl_inl (P := P_L l g) h _))
    · refine p_aload_n dL_law_1435 rfl ?_
      refine p_iconst dL_law_1436 ?_
      refine q_lald dL_law_1437 rfl rfl h (fun h => ?_)
      refine p_iload dL_law_1438 rfl ?_
      refine q_i2l dL_law_1440 h (fun h => ?_)
      refine q_lcmp_eq (tgt := 1447) dL_law_1441 dL_law_1442 (by decide) h (fun h => ?_) (fun h => ?_)
      · refine p_goto (tgt := 3076) dL_law_1447 (by decide) ?_
        refine p_iinc dL_law_3076 rfl (Nat.le_of_ble_eq_true rfl) rfl ?_
        refine p_goto (tgt := 23) dL_law_3079 (by decide) ?_
        exact p_widen (cuN (x := 4) hI (by decide)) (suN (x := 24) hI (by decide)) (p_weak (leL.same (leL.same (leL.same (leL.same (leL.same (leL.drop (leL.drop leL.nil))))))) (kl_inl (P := P_L l g) h _))
      · refine p_iconst dL_law_1445 ?_
        have h := kl_inr h
        exact p_lawret dL_law_1446 (cuL (x := 4) hI (by decide)) (suL (x := 24) hI (by decide)) (ok_some (K := K1) h)
  · refine p_iconst dL_law_1428 ?_
    have h := kl_inr h
    exact p_lawret dL_law_1429 (cuL (x := 4) hI (by decide)) (suL (x := 24) hI (by decide)) (ok_some (K := K1) h)
set_option maxRecDepth 100000 in
set_option maxHeartbeats 4000000 in
theorem x_L_c19 {l : Launch} {g : GH} (hG : G0 l g) (hL : g.2.2.2.2.2.1 ≤ 3584) {n : Nat} {s : Int × DT} (hI : 0 ≤ s.1 ∧ s.1 ≤ 3584) (h : ok (m_L_c19 (xsG g) g.2.2.2.2.2.1 s) (KL (P_L l g) K1)) : Px (E_L l g) 1450 [some (.ref g.2.2.2.2.1), some (vR g 0), some (vR g 73), some (vR g 102), some (vI s.1), none, none] [] (LF n) s.2 (cuF s.1 + 0) (suF s.1 + 0) := by
  refine p_aload_n dL_law_1450 rfl ?_
  refine p_aload_n dL_law_1451 rfl ?_
  refine p_iload dL_law_1452 rfl ?_
  refine p_iconst dL_law_1454 ?_
  refine p_iadd dL_law_1455 ?_
  refine q_sld hL dL_law_1456 h (fun h => ?_)
  refine p_aload_n dL_law_1457 rfl ?_
  refine p_iload dL_law_1458 rfl ?_
  refine p_iconst dL_law_1460 ?_
  refine p_iadd dL_law_1461 ?_
  refine q_sld hL dL_law_1462 h (fun h => ?_)
  refine p_aload_n dL_law_1463 rfl ?_
  refine p_iload dL_law_1464 rfl ?_
  refine p_iconst dL_law_1466 ?_
  refine p_iadd dL_law_1467 ?_
  refine q_sld hL dL_law_1468 h (fun h => ?_)
  refine p_aload_n dL_law_1469 rfl ?_
  refine cW_Ie [vR g 0, vI (xsG g (Int.toNat (s.1 + 1))), vI (xsG g (Int.toNat (s.1 + 2))), vI (xsG g (Int.toNat (s.1 + 3))), vR g 102] [] dL_law_1470 yw_L_crowd ml_L_209 (Nat.le_of_ble_eq_true rfl) rfl (Nat.le_of_ble_eq_true rfl) (cuL2 (x := 0) (y := 3) hI (by decide)) (suL2 (x := 0) (y := 18) hI (by decide)) h (fun K h => s_L_crowd hG h) (fun n r1470 D1470 h => ?_)
  refine p_istore dL_law_1473 (Nat.le_of_ble_eq_true rfl) rfl ?_
  refine p_aload_n dL_law_1475 rfl ?_
  refine p_aload_n dL_law_1476 rfl ?_
  refine p_iload dL_law_1477 rfl ?_
  refine p_iconst dL_law_1479 ?_
  refine p_iadd dL_law_1480 ?_
  refine q_sld hL dL_law_1481 h (fun h => ?_)
  refine p_aload_n dL_law_1482 rfl ?_
  refine p_iload dL_law_1483 rfl ?_
  refine p_iconst dL_law_1485 ?_
  refine p_iadd dL_law_1486 ?_
  refine q_sld hL dL_law_1487 h (fun h => ?_)
  refine p_aload_n dL_law_1488 rfl ?_
  refine p_iload dL_law_1489 rfl ?_
  refine p_iconst dL_law_1491 ?_
  refine p_iadd dL_law_1492 ?_
  refine q_sld hL dL_law_1493 h (fun h => ?_)
  refine cV_Iw [vI (xsG g (Int.toNat (s.1 + 1))), vI (xsG g (Int.toNat (s.1 + 2))), vI (xsG g (Int.toNat (s.1 + 3)))] [] dL_law_1494 yv_X11_crowd ml_L_211 (r := (RX11, TX11, 41)) rfl rfl (Nat.le_of_ble_eq_true rfl) rfl (Nat.le_of_ble_eq_true rfl) (cuL (x := 3) hI (by decide)) (suL (x := 18) hI (by decide)) rfl h (fun K h => s_X11_crowd hG h) (fun r1494 D1494 h => ?_)
  refine p_istore dL_law_1497 (Nat.le_of_ble_eq_true rfl) rfl ?_
  refine p_aload_n dL_law_1499 rfl ?_
  refine cV_Ir [] [] dL_law_1500 yv_X11_thrown ml_L_152 (r := (RX11, TX11, 41)) rfl rfl (Nat.le_of_ble_eq_true rfl) rfl (Nat.le_of_ble_eq_true rfl) (cuL (x := 3) hI (by decide)) (suL (x := 18) hI (by decide)) rfl h (fun K h => s_X11_thrown hG h) (fun r1500 h => ?_)
  refine p_iload dL_law_1503 rfl ?_
  refine q_icmp_eq (tgt := 1510) dL_law_1505 (by decide) h (fun h => ?_) (fun h => ?_)
  · refine p_iload dL_law_1510 rfl ?_
    refine q_if_ne (tgt := 1527) dL_law_1512 (by decide) h (fun h => ?_) (fun h => ?_)
    · refine p_goto (tgt := 3076) dL_law_1527 (by decide) ?_
      refine p_iinc dL_law_3076 rfl (Nat.le_of_ble_eq_true rfl) rfl ?_
      refine p_goto (tgt := 23) dL_law_3079 (by decide) ?_
      exact p_widen (cuN (x := 3) hI (by decide)) (suN (x := 18) hI (by decide)) (p_weak (leL.same (leL.same (leL.same (leL.same (leL.same (leL.drop (leL.drop leL.nil))))))) (kl_inl (P := P_L l g) h _))
    · refine p_aload_n dL_law_1515 rfl ?_
      refine p_iconst dL_law_1516 ?_
      refine q_lald dL_law_1517 rfl rfl h (fun h => ?_)
      refine p_iload dL_law_1518 rfl ?_
      refine q_i2l dL_law_1520 h (fun h => ?_)
      refine q_lcmp_eq (tgt := 1527) dL_law_1521 dL_law_1522 (by decide) h (fun h => ?_) (fun h => ?_)
      · refine p_goto (tgt := 3076) dL_law_1527 (by decide) ?_
        refine p_iinc dL_law_3076 rfl (Nat.le_of_ble_eq_true rfl) rfl ?_
        refine p_goto (tgt := 23) dL_law_3079 (by decide) ?_
        exact p_widen (cuN (x := 3) hI (by decide)) (suN (x := 18) hI (by decide)) (p_weak (leL.same (leL.same (leL.same (leL.same (leL.same (leL.drop (leL.drop leL.nil))))))) (kl_inl (P := P_L l g) h _))
      · refine p_iconst dL_law_1525 ?_
        have h := kl_inr h
        exact p_lawret dL_law_1526 (cuL (x := 3) hI (by decide)) (suL (x := 18) hI (by decide)) (ok_some (K := K1) h)
  · refine p_iconst dL_law_1508 ?_
    have h := kl_inr h
    exact p_lawret dL_law_1509 (cuL (x := 3) hI (by decide)) (suL (x := 18) hI (by decide)) (ok_some (K := K1) h)
set_option maxRecDepth 100000 in
set_option maxHeartbeats 4000000 in
theorem x_L_c20 {l : Launch} {g : GH} (hG : G0 l g) (hL : g.2.2.2.2.2.1 ≤ 3584) {n : Nat} {s : Int × DT} (hI : 0 ≤ s.1 ∧ s.1 ≤ 3584) (h : ok (m_L_c20 (xsG g) g.2.2.2.2.2.1 s) (KL (P_L l g) K1)) : Px (E_L l g) 1530 [some (.ref g.2.2.2.2.1), some (vR g 0), some (vR g 73), some (vR g 102), some (vI s.1), none, none] [] (LF n) s.2 (cuF s.1 + 0) (suF s.1 + 0) := by
  refine p_aload_n dL_law_1530 rfl ?_
  refine p_aload_n dL_law_1531 rfl ?_
  refine p_iload dL_law_1532 rfl ?_
  refine p_iconst dL_law_1534 ?_
  refine p_iadd dL_law_1535 ?_
  refine q_sld hL dL_law_1536 h (fun h => ?_)
  refine p_aload_n dL_law_1537 rfl ?_
  refine cW_Ie [vR g 0, vI (xsG g (Int.toNat (s.1 + 1))), vR g 102] [] dL_law_1538 yw_L_apart ml_L_212 (Nat.le_of_ble_eq_true rfl) rfl (Nat.le_of_ble_eq_true rfl) (cuL2 (x := 0) (y := 1) hI (by decide)) (suL2 (x := 0) (y := 6) hI (by decide)) h (fun K h => s_L_apart hG h) (fun n r1538 D1538 h => ?_)
  refine p_istore dL_law_1541 (Nat.le_of_ble_eq_true rfl) rfl ?_
  refine p_aload_n dL_law_1543 rfl ?_
  refine p_aload_n dL_law_1544 rfl ?_
  refine p_iload dL_law_1545 rfl ?_
  refine p_iconst dL_law_1547 ?_
  refine p_iadd dL_law_1548 ?_
  refine q_sld hL dL_law_1549 h (fun h => ?_)
  refine cV_Iw [vI (xsG g (Int.toNat (s.1 + 1)))] [] dL_law_1550 yv_X11_apart ml_L_214 (r := (RX11, TX11, 41)) rfl rfl (Nat.le_of_ble_eq_true rfl) rfl (Nat.le_of_ble_eq_true rfl) (cuL (x := 1) hI (by decide)) (suL (x := 6) hI (by decide)) rfl h (fun K h => s_X11_apart hG h) (fun r1550 D1550 h => ?_)
  refine p_istore dL_law_1553 (Nat.le_of_ble_eq_true rfl) rfl ?_
  refine p_aload_n dL_law_1555 rfl ?_
  refine cV_Ir [] [] dL_law_1556 yv_X11_thrown ml_L_152 (r := (RX11, TX11, 41)) rfl rfl (Nat.le_of_ble_eq_true rfl) rfl (Nat.le_of_ble_eq_true rfl) (cuL (x := 1) hI (by decide)) (suL (x := 6) hI (by decide)) rfl h (fun K h => s_X11_thrown hG h) (fun r1556 h => ?_)
  refine p_iload dL_law_1559 rfl ?_
  refine q_icmp_eq (tgt := 1566) dL_law_1561 (by decide) h (fun h => ?_) (fun h => ?_)
  · refine p_iload dL_law_1566 rfl ?_
    refine q_if_ne (tgt := 1583) dL_law_1568 (by decide) h (fun h => ?_) (fun h => ?_)
    · refine p_goto (tgt := 3076) dL_law_1583 (by decide) ?_
      refine p_iinc dL_law_3076 rfl (Nat.le_of_ble_eq_true rfl) rfl ?_
      refine p_goto (tgt := 23) dL_law_3079 (by decide) ?_
      exact p_widen (cuN (x := 1) hI (by decide)) (suN (x := 6) hI (by decide)) (p_weak (leL.same (leL.same (leL.same (leL.same (leL.same (leL.drop (leL.drop leL.nil))))))) (kl_inl (P := P_L l g) h _))
    · refine p_aload_n dL_law_1571 rfl ?_
      refine p_iconst dL_law_1572 ?_
      refine q_lald dL_law_1573 rfl rfl h (fun h => ?_)
      refine p_iload dL_law_1574 rfl ?_
      refine q_i2l dL_law_1576 h (fun h => ?_)
      refine q_lcmp_eq (tgt := 1583) dL_law_1577 dL_law_1578 (by decide) h (fun h => ?_) (fun h => ?_)
      · refine p_goto (tgt := 3076) dL_law_1583 (by decide) ?_
        refine p_iinc dL_law_3076 rfl (Nat.le_of_ble_eq_true rfl) rfl ?_
        refine p_goto (tgt := 23) dL_law_3079 (by decide) ?_
        exact p_widen (cuN (x := 1) hI (by decide)) (suN (x := 6) hI (by decide)) (p_weak (leL.same (leL.same (leL.same (leL.same (leL.same (leL.drop (leL.drop leL.nil))))))) (kl_inl (P := P_L l g) h _))
      · refine p_iconst dL_law_1581 ?_
        have h := kl_inr h
        exact p_lawret dL_law_1582 (cuL (x := 1) hI (by decide)) (suL (x := 6) hI (by decide)) (ok_some (K := K1) h)
  · refine p_iconst dL_law_1564 ?_
    have h := kl_inr h
    exact p_lawret dL_law_1565 (cuL (x := 1) hI (by decide)) (suL (x := 6) hI (by decide)) (ok_some (K := K1) h)
set_option maxRecDepth 100000 in
set_option maxHeartbeats 4000000 in
theorem x_L_c21 {l : Launch} {g : GH} (hG : G0 l g) (hL : g.2.2.2.2.2.1 ≤ 3584) {n : Nat} {s : Int × DT} (hI : 0 ≤ s.1 ∧ s.1 ≤ 3584) (h : ok (m_L_c21 (xsG g) g.2.2.2.2.2.1 s) (KL (P_L l g) K1)) : Px (E_L l g) 1586 [some (.ref g.2.2.2.2.1), some (vR g 0), some (vR g 73), some (vR g 102), some (vI s.1), none, none] [] (LF n) s.2 (cuF s.1 + 0) (suF s.1 + 0) := by
  refine p_aload_n dL_law_1586 rfl ?_
  refine p_aload_n dL_law_1587 rfl ?_
  refine p_iload dL_law_1588 rfl ?_
  refine p_iconst dL_law_1590 ?_
  refine p_iadd dL_law_1591 ?_
  refine q_sld hL dL_law_1592 h (fun h => ?_)
  refine p_aload_n dL_law_1593 rfl ?_
  refine p_iload dL_law_1594 rfl ?_
  refine p_iconst dL_law_1596 ?_
  refine p_iadd dL_law_1597 ?_
  refine q_sld hL dL_law_1598 h (fun h => ?_)
  refine p_aload_n dL_law_1599 rfl ?_
  refine cW_Ie [vR g 0, vI (xsG g (Int.toNat (s.1 + 1))), vI (xsG g (Int.toNat (s.1 + 2))), vR g 102] [] dL_law_1600 yw_L_off ml_L_215 (Nat.le_of_ble_eq_true rfl) rfl (Nat.le_of_ble_eq_true rfl) (cuL2 (x := 0) (y := 2) hI (by decide)) (suL2 (x := 0) (y := 12) hI (by decide)) h (fun K h => s_L_off hG h) (fun n r1600 D1600 h => ?_)
  refine p_istore dL_law_1603 (Nat.le_of_ble_eq_true rfl) rfl ?_
  refine p_aload_n dL_law_1605 rfl ?_
  refine p_aload_n dL_law_1606 rfl ?_
  refine p_iload dL_law_1607 rfl ?_
  refine p_iconst dL_law_1609 ?_
  refine p_iadd dL_law_1610 ?_
  refine q_sld hL dL_law_1611 h (fun h => ?_)
  refine p_aload_n dL_law_1612 rfl ?_
  refine p_iload dL_law_1613 rfl ?_
  refine p_iconst dL_law_1615 ?_
  refine p_iadd dL_law_1616 ?_
  refine q_sld hL dL_law_1617 h (fun h => ?_)
  refine cV_Iw [vI (xsG g (Int.toNat (s.1 + 1))), vI (xsG g (Int.toNat (s.1 + 2)))] [] dL_law_1618 yv_X11_off ml_L_217 (r := (RX11, TX11, 41)) rfl rfl (Nat.le_of_ble_eq_true rfl) rfl (Nat.le_of_ble_eq_true rfl) (cuL (x := 2) hI (by decide)) (suL (x := 12) hI (by decide)) rfl h (fun K h => s_X11_off hG h) (fun r1618 D1618 h => ?_)
  refine p_istore dL_law_1621 (Nat.le_of_ble_eq_true rfl) rfl ?_
  refine p_aload_n dL_law_1623 rfl ?_
  refine cV_Ir [] [] dL_law_1624 yv_X11_thrown ml_L_152 (r := (RX11, TX11, 41)) rfl rfl (Nat.le_of_ble_eq_true rfl) rfl (Nat.le_of_ble_eq_true rfl) (cuL (x := 2) hI (by decide)) (suL (x := 12) hI (by decide)) rfl h (fun K h => s_X11_thrown hG h) (fun r1624 h => ?_)
  refine p_iload dL_law_1627 rfl ?_
  refine q_icmp_eq (tgt := 1634) dL_law_1629 (by decide) h (fun h => ?_) (fun h => ?_)
  · refine p_iload dL_law_1634 rfl ?_
    refine q_if_ne (tgt := 1651) dL_law_1636 (by decide) h (fun h => ?_) (fun h => ?_)
    · refine p_goto (tgt := 3076) dL_law_1651 (by decide) ?_
      refine p_iinc dL_law_3076 rfl (Nat.le_of_ble_eq_true rfl) rfl ?_
      refine p_goto (tgt := 23) dL_law_3079 (by decide) ?_
      exact p_widen (cuN (x := 2) hI (by decide)) (suN (x := 12) hI (by decide)) (p_weak (leL.same (leL.same (leL.same (leL.same (leL.same (leL.drop (leL.drop leL.nil))))))) (kl_inl (P := P_L l g) h _))
    · refine p_aload_n dL_law_1639 rfl ?_
      refine p_iconst dL_law_1640 ?_
      refine q_lald dL_law_1641 rfl rfl h (fun h => ?_)
      refine p_iload dL_law_1642 rfl ?_
      refine q_i2l dL_law_1644 h (fun h => ?_)
      refine q_lcmp_eq (tgt := 1651) dL_law_1645 dL_law_1646 (by decide) h (fun h => ?_) (fun h => ?_)
      · refine p_goto (tgt := 3076) dL_law_1651 (by decide) ?_
        refine p_iinc dL_law_3076 rfl (Nat.le_of_ble_eq_true rfl) rfl ?_
        refine p_goto (tgt := 23) dL_law_3079 (by decide) ?_
        exact p_widen (cuN (x := 2) hI (by decide)) (suN (x := 12) hI (by decide)) (p_weak (leL.same (leL.same (leL.same (leL.same (leL.same (leL.drop (leL.drop leL.nil))))))) (kl_inl (P := P_L l g) h _))
      · refine p_iconst dL_law_1649 ?_
        have h := kl_inr h
        exact p_lawret dL_law_1650 (cuL (x := 2) hI (by decide)) (suL (x := 12) hI (by decide)) (ok_some (K := K1) h)
  · refine p_iconst dL_law_1632 ?_
    have h := kl_inr h
    exact p_lawret dL_law_1633 (cuL (x := 2) hI (by decide)) (suL (x := 12) hI (by decide)) (ok_some (K := K1) h)
set_option maxRecDepth 100000 in
set_option maxHeartbeats 4000000 in
theorem x_L_c22 {l : Launch} {g : GH} (hG : G0 l g) (hL : g.2.2.2.2.2.1 ≤ 3584) {n : Nat} {s : Int × DT} (hI : 0 ≤ s.1 ∧ s.1 ≤ 3584) (h : ok (m_L_c22 (xsG g) g.2.2.2.2.2.1 s) (KL (P_L l g) K1)) : Px (E_L l g) 1654 [some (.ref g.2.2.2.2.1), some (vR g 0), some (vR g 73), some (vR g 102), some (vI s.1), none, none] [] (LF n) s.2 (cuF s.1 + 0) (suF s.1 + 0) := by
  refine p_aload_n dL_law_1654 rfl ?_
  refine p_aload_n dL_law_1655 rfl ?_
  refine p_iload dL_law_1656 rfl ?_
  refine p_iconst dL_law_1658 ?_
  refine p_iadd dL_law_1659 ?_
  refine q_sld hL dL_law_1660 h (fun h => ?_)
  refine p_aload_n dL_law_1661 rfl ?_
  refine p_iload dL_law_1662 rfl ?_
  refine p_iconst dL_law_1664 ?_
  refine p_iadd dL_law_1665 ?_
  refine q_sld hL dL_law_1666 h (fun h => ?_)
  refine p_aload_n dL_law_1667 rfl ?_
  refine p_iload dL_law_1668 rfl ?_
  refine p_iconst dL_law_1670 ?_
  refine p_iadd dL_law_1671 ?_
  refine q_sld hL dL_law_1672 h (fun h => ?_)
  refine p_aload_n dL_law_1673 rfl ?_
  refine p_iload dL_law_1674 rfl ?_
  refine p_iconst dL_law_1676 ?_
  refine p_iadd dL_law_1677 ?_
  refine q_sld hL dL_law_1678 h (fun h => ?_)
  refine p_aload_n dL_law_1679 rfl ?_
  refine p_iload dL_law_1680 rfl ?_
  refine p_iconst dL_law_1682 ?_
  refine p_iadd dL_law_1683 ?_
  refine q_sld hL dL_law_1684 h (fun h => ?_)
  refine p_aload_n dL_law_1685 rfl ?_
  refine cW_Ie [vR g 0, vI (xsG g (Int.toNat (s.1 + 1))), vI (xsG g (Int.toNat (s.1 + 2))), vI (xsG g (Int.toNat (s.1 + 3))), vI (xsG g (Int.toNat (s.1 + 4))), vI (xsG g (Int.toNat (s.1 + 5))), vR g 102] [] dL_law_1686 yw_L_move ml_L_218 (Nat.le_of_ble_eq_true rfl) rfl (Nat.le_of_ble_eq_true rfl) (cuL2 (x := 0) (y := 5) hI (by decide)) (suL2 (x := 0) (y := 30) hI (by decide)) h (fun K h => s_L_move hG h) (fun n r1686 D1686 h => ?_)
  refine p_istore dL_law_1689 (Nat.le_of_ble_eq_true rfl) rfl ?_
  refine p_aload_n dL_law_1691 rfl ?_
  refine p_aload_n dL_law_1692 rfl ?_
  refine p_iload dL_law_1693 rfl ?_
  refine p_iconst dL_law_1695 ?_
  refine p_iadd dL_law_1696 ?_
  refine q_sld hL dL_law_1697 h (fun h => ?_)
  refine p_aload_n dL_law_1698 rfl ?_
  refine p_iload dL_law_1699 rfl ?_
  refine p_iconst dL_law_1701 ?_
  refine p_iadd dL_law_1702 ?_
  refine q_sld hL dL_law_1703 h (fun h => ?_)
  refine p_aload_n dL_law_1704 rfl ?_
  refine p_iload dL_law_1705 rfl ?_
  refine p_iconst dL_law_1707 ?_
  refine p_iadd dL_law_1708 ?_
  refine q_sld hL dL_law_1709 h (fun h => ?_)
  refine p_aload_n dL_law_1710 rfl ?_
  refine p_iload dL_law_1711 rfl ?_
  refine p_iconst dL_law_1713 ?_
  refine p_iadd dL_law_1714 ?_
  refine q_sld hL dL_law_1715 h (fun h => ?_)
  refine p_aload_n dL_law_1716 rfl ?_
  refine p_iload dL_law_1717 rfl ?_
  refine p_iconst dL_law_1719 ?_
  refine p_iadd dL_law_1720 ?_
  refine q_sld hL dL_law_1721 h (fun h => ?_)
  refine cV_Iw [vI (xsG g (Int.toNat (s.1 + 1))), vI (xsG g (Int.toNat (s.1 + 2))), vI (xsG g (Int.toNat (s.1 + 3))), vI (xsG g (Int.toNat (s.1 + 4))), vI (xsG g (Int.toNat (s.1 + 5)))] [] dL_law_1722 yv_X11_move ml_L_221 (r := (RX11, TX11, 41)) rfl rfl (Nat.le_of_ble_eq_true rfl) rfl (Nat.le_of_ble_eq_true rfl) (cuL (x := 5) hI (by decide)) (suL (x := 30) hI (by decide)) rfl h (fun K h => s_X11_move hG h) (fun r1722 D1722 h => ?_)
  refine p_istore dL_law_1725 (Nat.le_of_ble_eq_true rfl) rfl ?_
  refine p_aload_n dL_law_1727 rfl ?_
  refine cV_Ir [] [] dL_law_1728 yv_X11_thrown ml_L_152 (r := (RX11, TX11, 41)) rfl rfl (Nat.le_of_ble_eq_true rfl) rfl (Nat.le_of_ble_eq_true rfl) (cuL (x := 5) hI (by decide)) (suL (x := 30) hI (by decide)) rfl h (fun K h => s_X11_thrown hG h) (fun r1728 h => ?_)
  refine p_iload dL_law_1731 rfl ?_
  refine q_icmp_eq (tgt := 1738) dL_law_1733 (by decide) h (fun h => ?_) (fun h => ?_)
  · refine p_iload dL_law_1738 rfl ?_
    refine q_if_ne (tgt := 1755) dL_law_1740 (by decide) h (fun h => ?_) (fun h => ?_)
    · refine p_goto (tgt := 3076) dL_law_1755 (by decide) ?_
      refine p_iinc dL_law_3076 rfl (Nat.le_of_ble_eq_true rfl) rfl ?_
      refine p_goto (tgt := 23) dL_law_3079 (by decide) ?_
      exact p_widen (cuN (x := 5) hI (by decide)) (suN (x := 30) hI (by decide)) (p_weak (leL.same (leL.same (leL.same (leL.same (leL.same (leL.drop (leL.drop leL.nil))))))) (kl_inl (P := P_L l g) h _))
    · refine p_aload_n dL_law_1743 rfl ?_
      refine p_iconst dL_law_1744 ?_
      refine q_lald dL_law_1745 rfl rfl h (fun h => ?_)
      refine p_iload dL_law_1746 rfl ?_
      refine q_i2l dL_law_1748 h (fun h => ?_)
      refine q_lcmp_eq (tgt := 1755) dL_law_1749 dL_law_1750 (by decide) h (fun h => ?_) (fun h => ?_)
      · refine p_goto (tgt := 3076) dL_law_1755 (by decide) ?_
        refine p_iinc dL_law_3076 rfl (Nat.le_of_ble_eq_true rfl) rfl ?_
        refine p_goto (tgt := 23) dL_law_3079 (by decide) ?_
        exact p_widen (cuN (x := 5) hI (by decide)) (suN (x := 30) hI (by decide)) (p_weak (leL.same (leL.same (leL.same (leL.same (leL.same (leL.drop (leL.drop leL.nil))))))) (kl_inl (P := P_L l g) h _))
      · refine p_iconst dL_law_1753 ?_
        have h := kl_inr h
        exact p_lawret dL_law_1754 (cuL (x := 5) hI (by decide)) (suL (x := 30) hI (by decide)) (ok_some (K := K1) h)
  · refine p_iconst dL_law_1736 ?_
    have h := kl_inr h
    exact p_lawret dL_law_1737 (cuL (x := 5) hI (by decide)) (suL (x := 30) hI (by decide)) (ok_some (K := K1) h)
set_option maxRecDepth 100000 in
set_option maxHeartbeats 4000000 in
theorem x_L_c23 {l : Launch} {g : GH} (hG : G0 l g) (hL : g.2.2.2.2.2.1 ≤ 3584) {n : Nat} {s : Int × DT} (hI : 0 ≤ s.1 ∧ s.1 ≤ 3584) (h : ok (m_L_c23 (xsG g) g.2.2.2.2.2.1 s) (KL (P_L l g) K1)) : Px (E_L l g) 1758 [some (.ref g.2.2.2.2.1), some (vR g 0), some (vR g 73), some (vR g 102), some (vI s.1), none, none] [] (LF n) s.2 (cuF s.1 + 0) (suF s.1 + 0) := by
  refine p_aload_n dL_law_1758 rfl ?_
  refine p_aload_n dL_law_1759 rfl ?_
  refine p_iload dL_law_1760 rfl ?_
  refine p_iconst dL_law_1762 ?_
  refine p_iadd dL_law_1763 ?_
  refine q_sld hL dL_law_1764 h (fun h => ?_)
  refine p_aload_n dL_law_1765 rfl ?_
  refine p_iload dL_law_1766 rfl ?_
  refine p_iconst dL_law_1768 ?_
  refine p_iadd dL_law_1769 ?_
  refine q_sld hL dL_law_1770 h (fun h => ?_)
  refine p_aload_n dL_law_1771 rfl ?_
  refine p_iload dL_law_1772 rfl ?_
  refine p_iconst dL_law_1774 ?_
  refine p_iadd dL_law_1775 ?_
  refine q_sld hL dL_law_1776 h (fun h => ?_)
  refine p_aload_n dL_law_1777 rfl ?_
  refine p_iload dL_law_1778 rfl ?_
  refine p_iconst dL_law_1780 ?_
  refine p_iadd dL_law_1781 ?_
  refine q_sld hL dL_law_1782 h (fun h => ?_)
  refine p_aload_n dL_law_1783 rfl ?_
  refine p_iload dL_law_1784 rfl ?_
  refine p_iconst dL_law_1786 ?_
  refine p_iadd dL_law_1787 ?_
  refine q_sld hL dL_law_1788 h (fun h => ?_)
  refine p_aload_n dL_law_1789 rfl ?_
  refine p_iload dL_law_1790 rfl ?_
  refine p_bipush dL_law_1792 (by decide) ?_
  refine p_iadd dL_law_1794 ?_
  refine q_sld hL dL_law_1795 h (fun h => ?_)
  refine p_aload_n dL_law_1796 rfl ?_
  refine cW_Ie [vR g 0, vI (xsG g (Int.toNat (s.1 + 1))), vI (xsG g (Int.toNat (s.1 + 2))), vI (xsG g (Int.toNat (s.1 + 3))), vI (xsG g (Int.toNat (s.1 + 4))), vI (xsG g (Int.toNat (s.1 + 5))), vI (xsG g (Int.toNat (s.1 + 6))), vR g 102] [] dL_law_1797 yw_L_tries ml_L_222 (Nat.le_of_ble_eq_true rfl) rfl (Nat.le_of_ble_eq_true rfl) (cuL2 (x := 0) (y := 6) hI (by decide)) (suL2 (x := 0) (y := 36) hI (by decide)) h (fun K h => s_L_tries hG h) (fun n r1797 D1797 h => ?_)
  refine p_istore dL_law_1800 (Nat.le_of_ble_eq_true rfl) rfl ?_
  refine p_aload_n dL_law_1802 rfl ?_
  refine p_aload_n dL_law_1803 rfl ?_
  refine p_iload dL_law_1804 rfl ?_
  refine p_iconst dL_law_1806 ?_
  refine p_iadd dL_law_1807 ?_
  refine q_sld hL dL_law_1808 h (fun h => ?_)
  refine p_aload_n dL_law_1809 rfl ?_
  refine p_iload dL_law_1810 rfl ?_
  refine p_iconst dL_law_1812 ?_
  refine p_iadd dL_law_1813 ?_
  refine q_sld hL dL_law_1814 h (fun h => ?_)
  refine p_aload_n dL_law_1815 rfl ?_
  refine p_iload dL_law_1816 rfl ?_
  refine p_iconst dL_law_1818 ?_
  refine p_iadd dL_law_1819 ?_
  refine q_sld hL dL_law_1820 h (fun h => ?_)
  refine p_aload_n dL_law_1821 rfl ?_
  refine p_iload dL_law_1822 rfl ?_
  refine p_iconst dL_law_1824 ?_
  refine p_iadd dL_law_1825 ?_
  refine q_sld hL dL_law_1826 h (fun h => ?_)
  refine p_aload_n dL_law_1827 rfl ?_
  refine p_iload dL_law_1828 rfl ?_
  refine p_iconst dL_law_1830 ?_
  refine p_iadd dL_law_1831 ?_
  refine q_sld hL dL_law_1832 h (fun h => ?_)
  refine p_aload_n dL_law_1833 rfl ?_
  refine p_iload dL_law_1834 rfl ?_
  refine p_bipush dL_law_1836 (by decide) ?_
  refine p_iadd dL_law_1838 ?_
  refine q_sld hL dL_law_1839 h (fun h => ?_)
  refine cV_Iw [vI (xsG g (Int.toNat (s.1 + 1))), vI (xsG g (Int.toNat (s.1 + 2))), vI (xsG g (Int.toNat (s.1 + 3))), vI (xsG g (Int.toNat (s.1 + 4))), vI (xsG g (Int.toNat (s.1 + 5))), vI (xsG g (Int.toNat (s.1 + 6)))] [] dL_law_1840 yv_X11_tries ml_L_225 (r := (RX11, TX11, 41)) rfl rfl (Nat.le_of_ble_eq_true rfl) rfl (Nat.le_of_ble_eq_true rfl) (cuL (x := 6) hI (by decide)) (suL (x := 36) hI (by decide)) rfl h (fun K h => s_X11_tries hG h) (fun r1840 D1840 h => ?_)
  refine p_istore dL_law_1843 (Nat.le_of_ble_eq_true rfl) rfl ?_
  refine p_aload_n dL_law_1845 rfl ?_
  refine cV_Ir [] [] dL_law_1846 yv_X11_thrown ml_L_152 (r := (RX11, TX11, 41)) rfl rfl (Nat.le_of_ble_eq_true rfl) rfl (Nat.le_of_ble_eq_true rfl) (cuL (x := 6) hI (by decide)) (suL (x := 36) hI (by decide)) rfl h (fun K h => s_X11_thrown hG h) (fun r1846 h => ?_)
  refine p_iload dL_law_1849 rfl ?_
  refine q_icmp_eq (tgt := 1856) dL_law_1851 (by decide) h (fun h => ?_) (fun h => ?_)
  · refine p_iload dL_law_1856 rfl ?_
    refine q_if_ne (tgt := 1873) dL_law_1858 (by decide) h (fun h => ?_) (fun h => ?_)
    · refine p_goto (tgt := 3076) dL_law_1873 (by decide) ?_
      refine p_iinc dL_law_3076 rfl (Nat.le_of_ble_eq_true rfl) rfl ?_
      refine p_goto (tgt := 23) dL_law_3079 (by decide) ?_
      exact p_widen (cuN (x := 6) hI (by decide)) (suN (x := 36) hI (by decide)) (p_weak (leL.same (leL.same (leL.same (leL.same (leL.same (leL.drop (leL.drop leL.nil))))))) (kl_inl (P := P_L l g) h _))
    · refine p_aload_n dL_law_1861 rfl ?_
      refine p_iconst dL_law_1862 ?_
      refine q_lald dL_law_1863 rfl rfl h (fun h => ?_)
      refine p_iload dL_law_1864 rfl ?_
      refine q_i2l dL_law_1866 h (fun h => ?_)
      refine q_lcmp_eq (tgt := 1873) dL_law_1867 dL_law_1868 (by decide) h (fun h => ?_) (fun h => ?_)
      · refine p_goto (tgt := 3076) dL_law_1873 (by decide) ?_
        refine p_iinc dL_law_3076 rfl (Nat.le_of_ble_eq_true rfl) rfl ?_
        refine p_goto (tgt := 23) dL_law_3079 (by decide) ?_
        exact p_widen (cuN (x := 6) hI (by decide)) (suN (x := 36) hI (by decide)) (p_weak (leL.same (leL.same (leL.same (leL.same (leL.same (leL.drop (leL.drop leL.nil))))))) (kl_inl (P := P_L l g) h _))
      · refine p_iconst dL_law_1871 ?_
        have h := kl_inr h
        exact p_lawret dL_law_1872 (cuL (x := 6) hI (by decide)) (suL (x := 36) hI (by decide)) (ok_some (K := K1) h)
  · refine p_iconst dL_law_1854 ?_
    have h := kl_inr h
    exact p_lawret dL_law_1855 (cuL (x := 6) hI (by decide)) (suL (x := 36) hI (by decide)) (ok_some (K := K1) h)
set_option maxRecDepth 100000 in
set_option maxHeartbeats 4000000 in
theorem x_L_c24 {l : Launch} {g : GH} (hG : G0 l g) (hL : g.2.2.2.2.2.1 ≤ 3584) {n : Nat} {s : Int × DT} (hI : 0 ≤ s.1 ∧ s.1 ≤ 3584) (h : ok (m_L_c24 (xsG g) g.2.2.2.2.2.1 s) (KL (P_L l g) K1)) : Px (E_L l g) 1876 [some (.ref g.2.2.2.2.1), some (vR g 0), some (vR g 73), some (vR g 102), some (vI s.1), none, none] [] (LF n) s.2 (cuF s.1 + 0) (suF s.1 + 0) := by
  refine p_aload_n dL_law_1876 rfl ?_
  refine p_aload_n dL_law_1877 rfl ?_
  refine p_iload dL_law_1878 rfl ?_
  refine p_iconst dL_law_1880 ?_
  refine p_iadd dL_law_1881 ?_
  refine q_sld hL dL_law_1882 h (fun h => ?_)
  refine p_aload_n dL_law_1883 rfl ?_
  refine p_iload dL_law_1884 rfl ?_
  refine p_iconst dL_law_1886 ?_
  refine p_iadd dL_law_1887 ?_
  refine q_sld hL dL_law_1888 h (fun h => ?_)
  refine p_aload_n dL_law_1889 rfl ?_
  refine p_iload dL_law_1890 rfl ?_
  refine p_iconst dL_law_1892 ?_
  refine p_iadd dL_law_1893 ?_
  refine q_sld hL dL_law_1894 h (fun h => ?_)
  refine p_aload_n dL_law_1895 rfl ?_
  refine p_iload dL_law_1896 rfl ?_
  refine p_iconst dL_law_1898 ?_
  refine p_iadd dL_law_1899 ?_
  refine q_sld hL dL_law_1900 h (fun h => ?_)
  refine q_if_eq (tgt := 1908) dL_law_1901 (by decide) h (fun h => ?_) (fun h => ?_)
  · refine p_iconst dL_law_1908 ?_
    refine p_aload_n dL_law_1909 rfl ?_
    refine cW_Ie [vR g 0, vI (xsG g (Int.toNat (s.1 + 1))), vI (xsG g (Int.toNat (s.1 + 2))), vI (xsG g (Int.toNat (s.1 + 3))), vI 0, vR g 102] [] dL_law_1910 yw_L_run ml_L_226 (Nat.le_of_ble_eq_true rfl) rfl (Nat.le_of_ble_eq_true rfl) (cuL2 (x := 0) (y := 2) hI (by decide)) (suL2 (x := 0) (y := 12) hI (by decide)) h (fun K h => s_L_run hG h) (fun n r1910 D1910 h => ?_)
    refine p_istore dL_law_1913 (Nat.le_of_ble_eq_true rfl) rfl ?_
    refine p_aload_n dL_law_1915 rfl ?_
    refine p_aload_n dL_law_1916 rfl ?_
    refine p_iload dL_law_1917 rfl ?_
    refine p_iconst dL_law_1919 ?_
    refine p_iadd dL_law_1920 ?_
    refine q_sld hL dL_law_1921 h (fun h => ?_)
    refine p_aload_n dL_law_1922 rfl ?_
    refine p_iload dL_law_1923 rfl ?_
    refine p_iconst dL_law_1925 ?_
    refine p_iadd dL_law_1926 ?_
    refine q_sld hL dL_law_1927 h (fun h => ?_)
    refine p_aload_n dL_law_1928 rfl ?_
    refine p_iload dL_law_1929 rfl ?_
    refine p_iconst dL_law_1931 ?_
    refine p_iadd dL_law_1932 ?_
    refine q_sld hL dL_law_1933 h (fun h => ?_)
    refine p_aload_n dL_law_1934 rfl ?_
    refine p_iload dL_law_1935 rfl ?_
    refine p_iconst dL_law_1937 ?_
    refine p_iadd dL_law_1938 ?_
    refine q_sld hL dL_law_1939 h (fun h => ?_)
    refine q_if_eq (tgt := 1947) dL_law_1940 (by decide) h (fun h => ?_) (fun h => ?_)
    · refine p_iconst dL_law_1947 ?_
      refine cV_Iw [vI (xsG g (Int.toNat (s.1 + 1))), vI (xsG g (Int.toNat (s.1 + 2))), vI (xsG g (Int.toNat (s.1 + 3))), vI 0] [] dL_law_1948 yv_X11_run ml_L_229 (r := (RX11, TX11, 41)) rfl rfl (Nat.le_of_ble_eq_true rfl) rfl (Nat.le_of_ble_eq_true rfl) (cuL (x := 2) hI (by decide)) (suL (x := 12) hI (by decide)) rfl h (fun K h => s_X11_run hG h) (fun r1948 D1948 h => ?_)
      refine p_istore dL_law_1951 (Nat.le_of_ble_eq_true rfl) rfl ?_
      refine p_aload_n dL_law_1953 rfl ?_
      refine cV_Ir [] [] dL_law_1954 yv_X11_thrown ml_L_152 (r := (RX11, TX11, 41)) rfl rfl (Nat.le_of_ble_eq_true rfl) rfl (Nat.le_of_ble_eq_true rfl) (cuL (x := 2) hI (by decide)) (suL (x := 12) hI (by decide)) rfl h (fun K h => s_X11_thrown hG h) (fun r1954 h => ?_)
      refine p_iload dL_law_1957 rfl ?_
      refine q_icmp_eq (tgt := 1964) dL_law_1959 (by decide) h (fun h => ?_) (fun h => ?_)
      · refine p_iload dL_law_1964 rfl ?_
        refine q_if_ne (tgt := 1981) dL_law_1966 (by decide) h (fun h => ?_) (fun h => ?_)
        · refine p_goto (tgt := 3076) dL_law_1981 (by decide) ?_
          refine p_iinc dL_law_3076 rfl (Nat.le_of_ble_eq_true rfl) rfl ?_
          refine p_goto (tgt := 23) dL_law_3079 (by decide) ?_
          exact p_widen (cuN (x := 2) hI (by decide)) (suN (x := 12) hI (by decide)) (p_weak (leL.same (leL.same (leL.same (leL.same (leL.same (leL.drop (leL.drop leL.nil))))))) (kl_inl (P := P_L l g) h _))
        · refine p_aload_n dL_law_1969 rfl ?_
          refine p_iconst dL_law_1970 ?_
          refine q_lald dL_law_1971 rfl rfl h (fun h => ?_)
          refine p_iload dL_law_1972 rfl ?_
          refine q_i2l dL_law_1974 h (fun h => ?_)
          refine q_lcmp_eq (tgt := 1981) dL_law_1975 dL_law_1976 (by decide) h (fun h => ?_) (fun h => ?_)
          · refine p_goto (tgt := 3076) dL_law_1981 (by decide) ?_
            refine p_iinc dL_law_3076 rfl (Nat.le_of_ble_eq_true rfl) rfl ?_
            refine p_goto (tgt := 23) dL_law_3079 (by decide) ?_
            exact p_widen (cuN (x := 2) hI (by decide)) (suN (x := 12) hI (by decide)) (p_weak (leL.same (leL.same (leL.same (leL.same (leL.same (leL.drop (leL.drop leL.nil))))))) (kl_inl (P := P_L l g) h _))
          · refine p_iconst dL_law_1979 ?_
            have h := kl_inr h
            exact p_lawret dL_law_1980 (cuL (x := 2) hI (by decide)) (suL (x := 12) hI (by decide)) (ok_some (K := K1) h)
      · refine p_iconst dL_law_1962 ?_
        have h := kl_inr h
        exact p_lawret dL_law_1963 (cuL (x := 2) hI (by decide)) (suL (x := 12) hI (by decide)) (ok_some (K := K1) h)
    · refine p_iconst dL_law_1943 ?_
      refine p_goto (tgt := 1948) dL_law_1944 (by decide) ?_
      refine cV_Iw [vI (xsG g (Int.toNat (s.1 + 1))), vI (xsG g (Int.toNat (s.1 + 2))), vI (xsG g (Int.toNat (s.1 + 3))), vI 1] [] dL_law_1948 yv_X11_run ml_L_229 (r := (RX11, TX11, 41)) rfl rfl (Nat.le_of_ble_eq_true rfl) rfl (Nat.le_of_ble_eq_true rfl) (cuL (x := 2) hI (by decide)) (suL (x := 12) hI (by decide)) rfl h (fun K h => s_X11_run hG h) (fun r1948 D1948 h => ?_)
      refine p_istore dL_law_1951 (Nat.le_of_ble_eq_true rfl) rfl ?_
      refine p_aload_n dL_law_1953 rfl ?_
      refine cV_Ir [] [] dL_law_1954 yv_X11_thrown ml_L_152 (r := (RX11, TX11, 41)) rfl rfl (Nat.le_of_ble_eq_true rfl) rfl (Nat.le_of_ble_eq_true rfl) (cuL (x := 2) hI (by decide)) (suL (x := 12) hI (by decide)) rfl h (fun K h => s_X11_thrown hG h) (fun r1954 h => ?_)
      refine p_iload dL_law_1957 rfl ?_
      refine q_icmp_eq (tgt := 1964) dL_law_1959 (by decide) h (fun h => ?_) (fun h => ?_)
      · refine p_iload dL_law_1964 rfl ?_
        refine q_if_ne (tgt := 1981) dL_law_1966 (by decide) h (fun h => ?_) (fun h => ?_)
        · refine p_goto (tgt := 3076) dL_law_1981 (by decide) ?_
          refine p_iinc dL_law_3076 rfl (Nat.le_of_ble_eq_true rfl) rfl ?_
          refine p_goto (tgt := 23) dL_law_3079 (by decide) ?_
          exact p_widen (cuN (x := 2) hI (by decide)) (suN (x := 12) hI (by decide)) (p_weak (leL.same (leL.same (leL.same (leL.same (leL.same (leL.drop (leL.drop leL.nil))))))) (kl_inl (P := P_L l g) h _))
        · refine p_aload_n dL_law_1969 rfl ?_
          refine p_iconst dL_law_1970 ?_
          refine q_lald dL_law_1971 rfl rfl h (fun h => ?_)
          refine p_iload dL_law_1972 rfl ?_
          refine q_i2l dL_law_1974 h (fun h => ?_)
          refine q_lcmp_eq (tgt := 1981) dL_law_1975 dL_law_1976 (by decide) h (fun h => ?_) (fun h => ?_)
          · refine p_goto (tgt := 3076) dL_law_1981 (by decide) ?_
            refine p_iinc dL_law_3076 rfl (Nat.le_of_ble_eq_true rfl) rfl ?_
            refine p_goto (tgt := 23) dL_law_3079 (by decide) ?_
            exact p_widen (cuN (x := 2) hI (by decide)) (suN (x := 12) hI (by decide)) (p_weak (leL.same (leL.same (leL.same (leL.same (leL.same (leL.drop (leL.drop leL.nil))))))) (kl_inl (P := P_L l g) h _))
          · refine p_iconst dL_law_1979 ?_
            have h := kl_inr h
            exact p_lawret dL_law_1980 (cuL (x := 2) hI (by decide)) (suL (x := 12) hI (by decide)) (ok_some (K := K1) h)
      · refine p_iconst dL_law_1962 ?_
        have h := kl_inr h
        exact p_lawret dL_law_1963 (cuL (x := 2) hI (by decide)) (suL (x := 12) hI (by decide)) (ok_some (K := K1) h)
  · refine p_iconst dL_law_1904 ?_
    refine p_goto (tgt := 1909) dL_law_1905 (by decide) ?_
    refine p_aload_n dL_law_1909 rfl ?_
    refine cW_Ie [vR g 0, vI (xsG g (Int.toNat (s.1 + 1))), vI (xsG g (Int.toNat (s.1 + 2))), vI (xsG g (Int.toNat (s.1 + 3))), vI 1, vR g 102] [] dL_law_1910 yw_L_run ml_L_226 (Nat.le_of_ble_eq_true rfl) rfl (Nat.le_of_ble_eq_true rfl) (cuL2 (x := 0) (y := 2) hI (by decide)) (suL2 (x := 0) (y := 12) hI (by decide)) h (fun K h => s_L_run hG h) (fun n r1910 D1910 h => ?_)
    refine p_istore dL_law_1913 (Nat.le_of_ble_eq_true rfl) rfl ?_
    refine p_aload_n dL_law_1915 rfl ?_
    refine p_aload_n dL_law_1916 rfl ?_
    refine p_iload dL_law_1917 rfl ?_
    refine p_iconst dL_law_1919 ?_
    refine p_iadd dL_law_1920 ?_
    refine q_sld hL dL_law_1921 h (fun h => ?_)
    refine p_aload_n dL_law_1922 rfl ?_
    refine p_iload dL_law_1923 rfl ?_
    refine p_iconst dL_law_1925 ?_
    refine p_iadd dL_law_1926 ?_
    refine q_sld hL dL_law_1927 h (fun h => ?_)
    refine p_aload_n dL_law_1928 rfl ?_
    refine p_iload dL_law_1929 rfl ?_
    refine p_iconst dL_law_1931 ?_
    refine p_iadd dL_law_1932 ?_
    refine q_sld hL dL_law_1933 h (fun h => ?_)
    refine p_aload_n dL_law_1934 rfl ?_
    refine p_iload dL_law_1935 rfl ?_
    refine p_iconst dL_law_1937 ?_
    refine p_iadd dL_law_1938 ?_
    refine q_sld hL dL_law_1939 h (fun h => ?_)
    refine q_if_eq (tgt := 1947) dL_law_1940 (by decide) h (fun h => ?_) (fun h => ?_)
    · refine p_iconst dL_law_1947 ?_
      refine cV_Iw [vI (xsG g (Int.toNat (s.1 + 1))), vI (xsG g (Int.toNat (s.1 + 2))), vI (xsG g (Int.toNat (s.1 + 3))), vI 0] [] dL_law_1948 yv_X11_run ml_L_229 (r := (RX11, TX11, 41)) rfl rfl (Nat.le_of_ble_eq_true rfl) rfl (Nat.le_of_ble_eq_true rfl) (cuL (x := 2) hI (by decide)) (suL (x := 12) hI (by decide)) rfl h (fun K h => s_X11_run hG h) (fun r1948 D1948 h => ?_)
      refine p_istore dL_law_1951 (Nat.le_of_ble_eq_true rfl) rfl ?_
      refine p_aload_n dL_law_1953 rfl ?_
      refine cV_Ir [] [] dL_law_1954 yv_X11_thrown ml_L_152 (r := (RX11, TX11, 41)) rfl rfl (Nat.le_of_ble_eq_true rfl) rfl (Nat.le_of_ble_eq_true rfl) (cuL (x := 2) hI (by decide)) (suL (x := 12) hI (by decide)) rfl h (fun K h => s_X11_thrown hG h) (fun r1954 h => ?_)
      refine p_iload dL_law_1957 rfl ?_
      refine q_icmp_eq (tgt := 1964) dL_law_1959 (by decide) h (fun h => ?_) (fun h => ?_)
      · refine p_iload dL_law_1964 rfl ?_
        refine q_if_ne (tgt := 1981) dL_law_1966 (by decide) h (fun h => ?_) (fun h => ?_)
        · refine p_goto (tgt := 3076) dL_law_1981 (by decide) ?_
          refine p_iinc dL_law_3076 rfl (Nat.le_of_ble_eq_true rfl) rfl ?_
          refine p_goto (tgt := 23) dL_law_3079 (by decide) ?_
          exact p_widen (cuN (x := 2) hI (by decide)) (suN (x := 12) hI (by decide)) (p_weak (leL.same (leL.same (leL.same (leL.same (leL.same (leL.drop (leL.drop leL.nil))))))) (kl_inl (P := P_L l g) h _))
        · refine p_aload_n dL_law_1969 rfl ?_
          refine p_iconst dL_law_1970 ?_
          refine q_lald dL_law_1971 rfl rfl h (fun h => ?_)
          refine p_iload dL_law_1972 rfl ?_
          refine q_i2l dL_law_1974 h (fun h => ?_)
          refine q_lcmp_eq (tgt := 1981) dL_law_1975 dL_law_1976 (by decide) h (fun h => ?_) (fun h => ?_)
          · refine p_goto (tgt := 3076) dL_law_1981 (by decide) ?_
            refine p_iinc dL_law_3076 rfl (Nat.le_of_ble_eq_true rfl) rfl ?_
            refine p_goto (tgt := 23) dL_law_3079 (by decide) ?_
            exact p_widen (cuN (x := 2) hI (by decide)) (suN (x := 12) hI (by decide)) (p_weak (leL.same (leL.same (leL.same (leL.same (leL.same (leL.drop (leL.drop leL.nil))))))) (kl_inl (P := P_L l g) h _))
          · refine p_iconst dL_law_1979 ?_
            have h := kl_inr h
            exact p_lawret dL_law_1980 (cuL (x := 2) hI (by decide)) (suL (x := 12) hI (by decide)) (ok_some (K := K1) h)
      · refine p_iconst dL_law_1962 ?_
        have h := kl_inr h
        exact p_lawret dL_law_1963 (cuL (x := 2) hI (by decide)) (suL (x := 12) hI (by decide)) (ok_some (K := K1) h)
    · refine p_iconst dL_law_1943 ?_
      refine p_goto (tgt := 1948) dL_law_1944 (by decide) ?_
      refine cV_Iw [vI (xsG g (Int.toNat (s.1 + 1))), vI (xsG g (Int.toNat (s.1 + 2))), vI (xsG g (Int.toNat (s.1 + 3))), vI 1] [] dL_law_1948 yv_X11_run ml_L_229 (r := (RX11, TX11, 41)) rfl rfl (Nat.le_of_ble_eq_true rfl) rfl (Nat.le_of_ble_eq_true rfl) (cuL (x := 2) hI (by decide)) (suL (x := 12) hI (by decide)) rfl h (fun K h => s_X11_run hG h) (fun r1948 D1948 h => ?_)
      refine p_istore dL_law_1951 (Nat.le_of_ble_eq_true rfl) rfl ?_
      refine p_aload_n dL_law_1953 rfl ?_
      refine cV_Ir [] [] dL_law_1954 yv_X11_thrown ml_L_152 (r := (RX11, TX11, 41)) rfl rfl (Nat.le_of_ble_eq_true rfl) rfl (Nat.le_of_ble_eq_true rfl) (cuL (x := 2) hI (by decide)) (suL (x := 12) hI (by decide)) rfl h (fun K h => s_X11_thrown hG h) (fun r1954 h => ?_)
      refine p_iload dL_law_1957 rfl ?_
      refine q_icmp_eq (tgt := 1964) dL_law_1959 (by decide) h (fun h => ?_) (fun h => ?_)
      · refine p_iload dL_law_1964 rfl ?_
        refine q_if_ne (tgt := 1981) dL_law_1966 (by decide) h (fun h => ?_) (fun h => ?_)
        · refine p_goto (tgt := 3076) dL_law_1981 (by decide) ?_
          refine p_iinc dL_law_3076 rfl (Nat.le_of_ble_eq_true rfl) rfl ?_
          refine p_goto (tgt := 23) dL_law_3079 (by decide) ?_
          exact p_widen (cuN (x := 2) hI (by decide)) (suN (x := 12) hI (by decide)) (p_weak (leL.same (leL.same (leL.same (leL.same (leL.same (leL.drop (leL.drop leL.nil))))))) (kl_inl (P := P_L l g) h _))
        · refine p_aload_n dL_law_1969 rfl ?_
          refine p_iconst dL_law_1970 ?_
          refine q_lald dL_law_1971 rfl rfl h (fun h => ?_)
          refine p_iload dL_law_1972 rfl ?_
          refine q_i2l dL_law_1974 h (fun h => ?_)
          refine q_lcmp_eq (tgt := 1981) dL_law_1975 dL_law_1976 (by decide) h (fun h => ?_) (fun h => ?_)
          · refine p_goto (tgt := 3076) dL_law_1981 (by decide) ?_
            refine p_iinc dL_law_3076 rfl (Nat.le_of_ble_eq_true rfl) rfl ?_
            refine p_goto (tgt := 23) dL_law_3079 (by decide) ?_
            exact p_widen (cuN (x := 2) hI (by decide)) (suN (x := 12) hI (by decide)) (p_weak (leL.same (leL.same (leL.same (leL.same (leL.same (leL.drop (leL.drop leL.nil))))))) (kl_inl (P := P_L l g) h _))
          · refine p_iconst dL_law_1979 ?_
            have h := kl_inr h
            exact p_lawret dL_law_1980 (cuL (x := 2) hI (by decide)) (suL (x := 12) hI (by decide)) (ok_some (K := K1) h)
      · refine p_iconst dL_law_1962 ?_
        have h := kl_inr h
        exact p_lawret dL_law_1963 (cuL (x := 2) hI (by decide)) (suL (x := 12) hI (by decide)) (ok_some (K := K1) h)
set_option maxRecDepth 100000 in
set_option maxHeartbeats 4000000 in
theorem x_L_c25 {l : Launch} {g : GH} (hG : G0 l g) (hL : g.2.2.2.2.2.1 ≤ 3584) {n : Nat} {s : Int × DT} (hI : 0 ≤ s.1 ∧ s.1 ≤ 3584) (h : ok (m_L_c25 (xsG g) g.2.2.2.2.2.1 s) (KL (P_L l g) K1)) : Px (E_L l g) 1984 [some (.ref g.2.2.2.2.1), some (vR g 0), some (vR g 73), some (vR g 102), some (vI s.1), none, none] [] (LF n) s.2 (cuF s.1 + 0) (suF s.1 + 0) := by
  refine p_aload_n dL_law_1984 rfl ?_
  refine p_aload_n dL_law_1985 rfl ?_
  refine p_iload dL_law_1986 rfl ?_
  refine p_iconst dL_law_1988 ?_
  refine p_iadd dL_law_1989 ?_
  refine q_sld hL dL_law_1990 h (fun h => ?_)
  refine p_aload_n dL_law_1991 rfl ?_
  refine cW_Ie [vR g 0, vI (xsG g (Int.toNat (s.1 + 1))), vR g 102] [] dL_law_1992 yw_L_part ml_L_230 (Nat.le_of_ble_eq_true rfl) rfl (Nat.le_of_ble_eq_true rfl) (cuL2 (x := 0) (y := 1) hI (by decide)) (suL2 (x := 0) (y := 6) hI (by decide)) h (fun K h => s_L_part hG h) (fun n r1992 D1992 h => ?_)
  refine p_istore dL_law_1995 (Nat.le_of_ble_eq_true rfl) rfl ?_
  refine p_aload_n dL_law_1997 rfl ?_
  refine p_aload_n dL_law_1998 rfl ?_
  refine p_iload dL_law_1999 rfl ?_
  refine p_iconst dL_law_2001 ?_
  refine p_iadd dL_law_2002 ?_
  refine q_sld hL dL_law_2003 h (fun h => ?_)
  refine cV_Iw [vI (xsG g (Int.toNat (s.1 + 1)))] [] dL_law_2004 yv_X11_part ml_L_232 (r := (RX11, TX11, 41)) rfl rfl (Nat.le_of_ble_eq_true rfl) rfl (Nat.le_of_ble_eq_true rfl) (cuL (x := 1) hI (by decide)) (suL (x := 6) hI (by decide)) rfl h (fun K h => s_X11_part hG h) (fun r2004 D2004 h => ?_)
  refine p_istore dL_law_2007 (Nat.le_of_ble_eq_true rfl) rfl ?_
  refine p_aload_n dL_law_2009 rfl ?_
  refine cV_Ir [] [] dL_law_2010 yv_X11_thrown ml_L_152 (r := (RX11, TX11, 41)) rfl rfl (Nat.le_of_ble_eq_true rfl) rfl (Nat.le_of_ble_eq_true rfl) (cuL (x := 1) hI (by decide)) (suL (x := 6) hI (by decide)) rfl h (fun K h => s_X11_thrown hG h) (fun r2010 h => ?_)
  refine p_iload dL_law_2013 rfl ?_
  refine q_icmp_eq (tgt := 2020) dL_law_2015 (by decide) h (fun h => ?_) (fun h => ?_)
  · refine p_iload dL_law_2020 rfl ?_
    refine q_if_ne (tgt := 2037) dL_law_2022 (by decide) h (fun h => ?_) (fun h => ?_)
    · refine p_goto (tgt := 3076) dL_law_2037 (by decide) ?_
      refine p_iinc dL_law_3076 rfl (Nat.le_of_ble_eq_true rfl) rfl ?_
      refine p_goto (tgt := 23) dL_law_3079 (by decide) ?_
      exact p_widen (cuN (x := 1) hI (by decide)) (suN (x := 6) hI (by decide)) (p_weak (leL.same (leL.same (leL.same (leL.same (leL.same (leL.drop (leL.drop leL.nil))))))) (kl_inl (P := P_L l g) h _))
    · refine p_aload_n dL_law_2025 rfl ?_
      refine p_iconst dL_law_2026 ?_
      refine q_lald dL_law_2027 rfl rfl h (fun h => ?_)
      refine p_iload dL_law_2028 rfl ?_
      refine q_i2l dL_law_2030 h (fun h => ?_)
      refine q_lcmp_eq (tgt := 2037) dL_law_2031 dL_law_2032 (by decide) h (fun h => ?_) (fun h => ?_)
      · refine p_goto (tgt := 3076) dL_law_2037 (by decide) ?_
        refine p_iinc dL_law_3076 rfl (Nat.le_of_ble_eq_true rfl) rfl ?_
        refine p_goto (tgt := 23) dL_law_3079 (by decide) ?_
        exact p_widen (cuN (x := 1) hI (by decide)) (suN (x := 6) hI (by decide)) (p_weak (leL.same (leL.same (leL.same (leL.same (leL.same (leL.drop (leL.drop leL.nil))))))) (kl_inl (P := P_L l g) h _))
      · refine p_iconst dL_law_2035 ?_
        have h := kl_inr h
        exact p_lawret dL_law_2036 (cuL (x := 1) hI (by decide)) (suL (x := 6) hI (by decide)) (ok_some (K := K1) h)
  · refine p_iconst dL_law_2018 ?_
    have h := kl_inr h
    exact p_lawret dL_law_2019 (cuL (x := 1) hI (by decide)) (suL (x := 6) hI (by decide)) (ok_some (K := K1) h)
set_option maxRecDepth 100000 in
set_option maxHeartbeats 4000000 in
theorem x_L_c26 {l : Launch} {g : GH} (hG : G0 l g) (hL : g.2.2.2.2.2.1 ≤ 3584) {n : Nat} {s : Int × DT} (hI : 0 ≤ s.1 ∧ s.1 ≤ 3584) (h : ok (m_L_c26 (xsG g) g.2.2.2.2.2.1 s) (KL (P_L l g) K1)) : Px (E_L l g) 2040 [some (.ref g.2.2.2.2.1), some (vR g 0), some (vR g 73), some (vR g 102), some (vI s.1), none, none] [] (LF n) s.2 (cuF s.1 + 0) (suF s.1 + 0) := by
  refine p_aload_n dL_law_2040 rfl ?_
  refine p_aload_n dL_law_2041 rfl ?_
  refine p_iload dL_law_2042 rfl ?_
  refine p_iconst dL_law_2044 ?_
  refine p_iadd dL_law_2045 ?_
  refine q_sld hL dL_law_2046 h (fun h => ?_)
  refine p_aload_n dL_law_2047 rfl ?_
  refine p_iload dL_law_2048 rfl ?_
  refine p_iconst dL_law_2050 ?_
  refine p_iadd dL_law_2051 ?_
  refine q_sld hL dL_law_2052 h (fun h => ?_)
  refine p_aload_n dL_law_2053 rfl ?_
  refine p_iload dL_law_2054 rfl ?_
  refine p_iconst dL_law_2056 ?_
  refine p_iadd dL_law_2057 ?_
  refine q_sld hL dL_law_2058 h (fun h => ?_)
  refine p_aload_n dL_law_2059 rfl ?_
  refine p_iload dL_law_2060 rfl ?_
  refine p_iconst dL_law_2062 ?_
  refine p_iadd dL_law_2063 ?_
  refine q_sld hL dL_law_2064 h (fun h => ?_)
  refine p_aload_n dL_law_2065 rfl ?_
  refine cW_Ie [vR g 0, vI (xsG g (Int.toNat (s.1 + 1))), vI (xsG g (Int.toNat (s.1 + 2))), vI (xsG g (Int.toNat (s.1 + 3))), vI (xsG g (Int.toNat (s.1 + 4))), vR g 102] [] dL_law_2066 yw_L_measure ml_L_233 (Nat.le_of_ble_eq_true rfl) rfl (Nat.le_of_ble_eq_true rfl) (cuL2 (x := 0) (y := 4) hI (by decide)) (suL2 (x := 0) (y := 24) hI (by decide)) h (fun K h => s_L_measure hG h) (fun n r2066 D2066 h => ?_)
  refine p_istore dL_law_2069 (Nat.le_of_ble_eq_true rfl) rfl ?_
  refine p_aload_n dL_law_2071 rfl ?_
  refine p_aload_n dL_law_2072 rfl ?_
  refine p_iload dL_law_2073 rfl ?_
  refine p_iconst dL_law_2075 ?_
  refine p_iadd dL_law_2076 ?_
  refine q_sld hL dL_law_2077 h (fun h => ?_)
  refine p_aload_n dL_law_2078 rfl ?_
  refine p_iload dL_law_2079 rfl ?_
  refine p_iconst dL_law_2081 ?_
  refine p_iadd dL_law_2082 ?_
  refine q_sld hL dL_law_2083 h (fun h => ?_)
  refine p_aload_n dL_law_2084 rfl ?_
  refine p_iload dL_law_2085 rfl ?_
  refine p_iconst dL_law_2087 ?_
  refine p_iadd dL_law_2088 ?_
  refine q_sld hL dL_law_2089 h (fun h => ?_)
  refine p_aload_n dL_law_2090 rfl ?_
  refine p_iload dL_law_2091 rfl ?_
  refine p_iconst dL_law_2093 ?_
  refine p_iadd dL_law_2094 ?_
  refine q_sld hL dL_law_2095 h (fun h => ?_)
  refine cV_Iw [vI (xsG g (Int.toNat (s.1 + 1))), vI (xsG g (Int.toNat (s.1 + 2))), vI (xsG g (Int.toNat (s.1 + 3))), vI (xsG g (Int.toNat (s.1 + 4)))] [] dL_law_2096 yv_X11_measure ml_L_235 (r := (RX11, TX11, 41)) rfl rfl (Nat.le_of_ble_eq_true rfl) rfl (Nat.le_of_ble_eq_true rfl) (cuL (x := 4) hI (by decide)) (suL (x := 24) hI (by decide)) rfl h (fun K h => s_X11_measure hG h) (fun r2096 D2096 h => ?_)
  refine p_istore dL_law_2099 (Nat.le_of_ble_eq_true rfl) rfl ?_
  refine p_aload_n dL_law_2101 rfl ?_
  refine cV_Ir [] [] dL_law_2102 yv_X11_thrown ml_L_152 (r := (RX11, TX11, 41)) rfl rfl (Nat.le_of_ble_eq_true rfl) rfl (Nat.le_of_ble_eq_true rfl) (cuL (x := 4) hI (by decide)) (suL (x := 24) hI (by decide)) rfl h (fun K h => s_X11_thrown hG h) (fun r2102 h => ?_)
  refine p_iload dL_law_2105 rfl ?_
  refine q_icmp_eq (tgt := 2112) dL_law_2107 (by decide) h (fun h => ?_) (fun h => ?_)
  · refine p_iload dL_law_2112 rfl ?_
    refine q_if_ne (tgt := 2129) dL_law_2114 (by decide) h (fun h => ?_) (fun h => ?_)
    · refine p_goto (tgt := 3076) dL_law_2129 (by decide) ?_
      refine p_iinc dL_law_3076 rfl (Nat.le_of_ble_eq_true rfl) rfl ?_
      refine p_goto (tgt := 23) dL_law_3079 (by decide) ?_
      exact p_widen (cuN (x := 4) hI (by decide)) (suN (x := 24) hI (by decide)) (p_weak (leL.same (leL.same (leL.same (leL.same (leL.same (leL.drop (leL.drop leL.nil))))))) (kl_inl (P := P_L l g) h _))
    · refine p_aload_n dL_law_2117 rfl ?_
      refine p_iconst dL_law_2118 ?_
      refine q_lald dL_law_2119 rfl rfl h (fun h => ?_)
      refine p_iload dL_law_2120 rfl ?_
      refine q_i2l dL_law_2122 h (fun h => ?_)
      refine q_lcmp_eq (tgt := 2129) dL_law_2123 dL_law_2124 (by decide) h (fun h => ?_) (fun h => ?_)
      · refine p_goto (tgt := 3076) dL_law_2129 (by decide) ?_
        refine p_iinc dL_law_3076 rfl (Nat.le_of_ble_eq_true rfl) rfl ?_
        refine p_goto (tgt := 23) dL_law_3079 (by decide) ?_
        exact p_widen (cuN (x := 4) hI (by decide)) (suN (x := 24) hI (by decide)) (p_weak (leL.same (leL.same (leL.same (leL.same (leL.same (leL.drop (leL.drop leL.nil))))))) (kl_inl (P := P_L l g) h _))
      · refine p_iconst dL_law_2127 ?_
        have h := kl_inr h
        exact p_lawret dL_law_2128 (cuL (x := 4) hI (by decide)) (suL (x := 24) hI (by decide)) (ok_some (K := K1) h)
  · refine p_iconst dL_law_2110 ?_
    have h := kl_inr h
    exact p_lawret dL_law_2111 (cuL (x := 4) hI (by decide)) (suL (x := 24) hI (by decide)) (ok_some (K := K1) h)
set_option maxRecDepth 100000 in
set_option maxHeartbeats 4000000 in
theorem x_L_c27 {l : Launch} {g : GH} (hG : G0 l g) (hL : g.2.2.2.2.2.1 ≤ 3584) {n : Nat} {s : Int × DT} (hI : 0 ≤ s.1 ∧ s.1 ≤ 3584) (h : ok (m_L_c27 (xsG g) g.2.2.2.2.2.1 s) (KL (P_L l g) K1)) : Px (E_L l g) 2132 [some (.ref g.2.2.2.2.1), some (vR g 0), some (vR g 73), some (vR g 102), some (vI s.1), none, none] [] (LF n) s.2 (cuF s.1 + 0) (suF s.1 + 0) := by
  refine p_aload_n dL_law_2132 rfl ?_
  refine p_aload_n dL_law_2133 rfl ?_
  refine p_iload dL_law_2134 rfl ?_
  refine p_iconst dL_law_2136 ?_
  refine p_iadd dL_law_2137 ?_
  refine q_sld hL dL_law_2138 h (fun h => ?_)
  refine p_aload_n dL_law_2139 rfl ?_
  refine p_iload dL_law_2140 rfl ?_
  refine p_iconst dL_law_2142 ?_
  refine p_iadd dL_law_2143 ?_
  refine q_sld hL dL_law_2144 h (fun h => ?_)
  refine p_aload_n dL_law_2145 rfl ?_
  refine p_iload dL_law_2146 rfl ?_
  refine p_iconst dL_law_2148 ?_
  refine p_iadd dL_law_2149 ?_
  refine q_sld hL dL_law_2150 h (fun h => ?_)
  refine p_aload_n dL_law_2151 rfl ?_
  refine cW_Ie [vR g 0, vI (xsG g (Int.toNat (s.1 + 1))), vI (xsG g (Int.toNat (s.1 + 2))), vI (xsG g (Int.toNat (s.1 + 3))), vR g 102] [] dL_law_2152 yw_L_best ml_L_236 (Nat.le_of_ble_eq_true rfl) rfl (Nat.le_of_ble_eq_true rfl) (cuL2 (x := 0) (y := 3) hI (by decide)) (suL2 (x := 0) (y := 18) hI (by decide)) h (fun K h => s_L_best hG h) (fun n r2152 D2152 h => ?_)
  refine p_istore dL_law_2155 (Nat.le_of_ble_eq_true rfl) rfl ?_
  refine p_aload_n dL_law_2157 rfl ?_
  refine p_aload_n dL_law_2158 rfl ?_
  refine p_iload dL_law_2159 rfl ?_
  refine p_iconst dL_law_2161 ?_
  refine p_iadd dL_law_2162 ?_
  refine q_sld hL dL_law_2163 h (fun h => ?_)
  refine p_aload_n dL_law_2164 rfl ?_
  refine p_iload dL_law_2165 rfl ?_
  refine p_iconst dL_law_2167 ?_
  refine p_iadd dL_law_2168 ?_
  refine q_sld hL dL_law_2169 h (fun h => ?_)
  refine p_aload_n dL_law_2170 rfl ?_
  refine p_iload dL_law_2171 rfl ?_
  refine p_iconst dL_law_2173 ?_
  refine p_iadd dL_law_2174 ?_
  refine q_sld hL dL_law_2175 h (fun h => ?_)
  refine cV_Iw [vI (xsG g (Int.toNat (s.1 + 1))), vI (xsG g (Int.toNat (s.1 + 2))), vI (xsG g (Int.toNat (s.1 + 3)))] [] dL_law_2176 yv_X11_best ml_L_238 (r := (RX11, TX11, 41)) rfl rfl (Nat.le_of_ble_eq_true rfl) rfl (Nat.le_of_ble_eq_true rfl) (cuL (x := 3) hI (by decide)) (suL (x := 18) hI (by decide)) rfl h (fun K h => s_X11_best hG h) (fun r2176 D2176 h => ?_)
  refine p_istore dL_law_2179 (Nat.le_of_ble_eq_true rfl) rfl ?_
  refine p_aload_n dL_law_2181 rfl ?_
  refine cV_Ir [] [] dL_law_2182 yv_X11_thrown ml_L_152 (r := (RX11, TX11, 41)) rfl rfl (Nat.le_of_ble_eq_true rfl) rfl (Nat.le_of_ble_eq_true rfl) (cuL (x := 3) hI (by decide)) (suL (x := 18) hI (by decide)) rfl h (fun K h => s_X11_thrown hG h) (fun r2182 h => ?_)
  refine p_iload dL_law_2185 rfl ?_
  refine q_icmp_eq (tgt := 2192) dL_law_2187 (by decide) h (fun h => ?_) (fun h => ?_)
  · refine p_iload dL_law_2192 rfl ?_
    refine q_if_ne (tgt := 2209) dL_law_2194 (by decide) h (fun h => ?_) (fun h => ?_)
    · refine p_goto (tgt := 3076) dL_law_2209 (by decide) ?_
      refine p_iinc dL_law_3076 rfl (Nat.le_of_ble_eq_true rfl) rfl ?_
      refine p_goto (tgt := 23) dL_law_3079 (by decide) ?_
      exact p_widen (cuN (x := 3) hI (by decide)) (suN (x := 18) hI (by decide)) (p_weak (leL.same (leL.same (leL.same (leL.same (leL.same (leL.drop (leL.drop leL.nil))))))) (kl_inl (P := P_L l g) h _))
    · refine p_aload_n dL_law_2197 rfl ?_
      refine p_iconst dL_law_2198 ?_
      refine q_lald dL_law_2199 rfl rfl h (fun h => ?_)
      refine p_iload dL_law_2200 rfl ?_
      refine q_i2l dL_law_2202 h (fun h => ?_)
      refine q_lcmp_eq (tgt := 2209) dL_law_2203 dL_law_2204 (by decide) h (fun h => ?_) (fun h => ?_)
      · refine p_goto (tgt := 3076) dL_law_2209 (by decide) ?_
        refine p_iinc dL_law_3076 rfl (Nat.le_of_ble_eq_true rfl) rfl ?_
        refine p_goto (tgt := 23) dL_law_3079 (by decide) ?_
        exact p_widen (cuN (x := 3) hI (by decide)) (suN (x := 18) hI (by decide)) (p_weak (leL.same (leL.same (leL.same (leL.same (leL.same (leL.drop (leL.drop leL.nil))))))) (kl_inl (P := P_L l g) h _))
      · refine p_iconst dL_law_2207 ?_
        have h := kl_inr h
        exact p_lawret dL_law_2208 (cuL (x := 3) hI (by decide)) (suL (x := 18) hI (by decide)) (ok_some (K := K1) h)
  · refine p_iconst dL_law_2190 ?_
    have h := kl_inr h
    exact p_lawret dL_law_2191 (cuL (x := 3) hI (by decide)) (suL (x := 18) hI (by decide)) (ok_some (K := K1) h)
set_option maxRecDepth 100000 in
set_option maxHeartbeats 4000000 in
theorem x_L_c28 {l : Launch} {g : GH} (hG : G0 l g) (hL : g.2.2.2.2.2.1 ≤ 3584) {n : Nat} {s : Int × DT} (hI : 0 ≤ s.1 ∧ s.1 ≤ 3584) (h : ok (m_L_c28 (xsG g) g.2.2.2.2.2.1 s) (KL (P_L l g) K1)) : Px (E_L l g) 2212 [some (.ref g.2.2.2.2.1), some (vR g 0), some (vR g 73), some (vR g 102), some (vI s.1), none, none] [] (LF n) s.2 (cuF s.1 + 0) (suF s.1 + 0) := by
  refine p_aload_n dL_law_2212 rfl ?_
  refine p_aload_n dL_law_2213 rfl ?_
  refine p_iload dL_law_2214 rfl ?_
  refine p_iconst dL_law_2216 ?_
  refine p_iadd dL_law_2217 ?_
  refine q_sld hL dL_law_2218 h (fun h => ?_)
  refine p_aload_n dL_law_2219 rfl ?_
  refine p_iload dL_law_2220 rfl ?_
  refine p_iconst dL_law_2222 ?_
  refine p_iadd dL_law_2223 ?_
  refine q_sld hL dL_law_2224 h (fun h => ?_)
  refine p_aload_n dL_law_2225 rfl ?_
  refine cW_Ie [vR g 0, vI (xsG g (Int.toNat (s.1 + 1))), vI (xsG g (Int.toNat (s.1 + 2))), vR g 102] [] dL_law_2226 yw_L_nearest ml_L_239 (Nat.le_of_ble_eq_true rfl) rfl (Nat.le_of_ble_eq_true rfl) (cuL2 (x := 0) (y := 2) hI (by decide)) (suL2 (x := 0) (y := 12) hI (by decide)) h (fun K h => s_L_nearest hG h) (fun n r2226 D2226 h => ?_)
  refine p_istore dL_law_2229 (Nat.le_of_ble_eq_true rfl) rfl ?_
  refine p_aload_n dL_law_2231 rfl ?_
  refine p_aload_n dL_law_2232 rfl ?_
  refine p_iload dL_law_2233 rfl ?_
  refine p_iconst dL_law_2235 ?_
  refine p_iadd dL_law_2236 ?_
  refine q_sld hL dL_law_2237 h (fun h => ?_)
  refine p_aload_n dL_law_2238 rfl ?_
  refine p_iload dL_law_2239 rfl ?_
  refine p_iconst dL_law_2241 ?_
  refine p_iadd dL_law_2242 ?_
  refine q_sld hL dL_law_2243 h (fun h => ?_)
  refine cV_Iw [vI (xsG g (Int.toNat (s.1 + 1))), vI (xsG g (Int.toNat (s.1 + 2)))] [] dL_law_2244 yv_X11_nearest ml_L_241 (r := (RX11, TX11, 41)) rfl rfl (Nat.le_of_ble_eq_true rfl) rfl (Nat.le_of_ble_eq_true rfl) (cuL (x := 2) hI (by decide)) (suL (x := 12) hI (by decide)) rfl h (fun K h => s_X11_nearest hG h) (fun r2244 D2244 h => ?_)
  refine p_istore dL_law_2247 (Nat.le_of_ble_eq_true rfl) rfl ?_
  refine p_aload_n dL_law_2249 rfl ?_
  refine cV_Ir [] [] dL_law_2250 yv_X11_thrown ml_L_152 (r := (RX11, TX11, 41)) rfl rfl (Nat.le_of_ble_eq_true rfl) rfl (Nat.le_of_ble_eq_true rfl) (cuL (x := 2) hI (by decide)) (suL (x := 12) hI (by decide)) rfl h (fun K h => s_X11_thrown hG h) (fun r2250 h => ?_)
  refine p_iload dL_law_2253 rfl ?_
  refine q_icmp_eq (tgt := 2260) dL_law_2255 (by decide) h (fun h => ?_) (fun h => ?_)
  · refine p_iload dL_law_2260 rfl ?_
    refine q_if_ne (tgt := 2277) dL_law_2262 (by decide) h (fun h => ?_) (fun h => ?_)
    · refine p_goto (tgt := 3076) dL_law_2277 (by decide) ?_
      refine p_iinc dL_law_3076 rfl (Nat.le_of_ble_eq_true rfl) rfl ?_
      refine p_goto (tgt := 23) dL_law_3079 (by decide) ?_
      exact p_widen (cuN (x := 2) hI (by decide)) (suN (x := 12) hI (by decide)) (p_weak (leL.same (leL.same (leL.same (leL.same (leL.same (leL.drop (leL.drop leL.nil))))))) (kl_inl (P := P_L l g) h _))
    · refine p_aload_n dL_law_2265 rfl ?_
      refine p_iconst dL_law_2266 ?_
      refine q_lald dL_law_2267 rfl rfl h (fun h => ?_)
      refine p_iload dL_law_2268 rfl ?_
      refine q_i2l dL_law_2270 h (fun h => ?_)
      refine q_lcmp_eq (tgt := 2277) dL_law_2271 dL_law_2272 (by decide) h (fun h => ?_) (fun h => ?_)
      · refine p_goto (tgt := 3076) dL_law_2277 (by decide) ?_
        refine p_iinc dL_law_3076 rfl (Nat.le_of_ble_eq_true rfl) rfl ?_
        refine p_goto (tgt := 23) dL_law_3079 (by decide) ?_
        exact p_widen (cuN (x := 2) hI (by decide)) (suN (x := 12) hI (by decide)) (p_weak (leL.same (leL.same (leL.same (leL.same (leL.same (leL.drop (leL.drop leL.nil))))))) (kl_inl (P := P_L l g) h _))
      · refine p_iconst dL_law_2275 ?_
        have h := kl_inr h
        exact p_lawret dL_law_2276 (cuL (x := 2) hI (by decide)) (suL (x := 12) hI (by decide)) (ok_some (K := K1) h)
  · refine p_iconst dL_law_2258 ?_
    have h := kl_inr h
    exact p_lawret dL_law_2259 (cuL (x := 2) hI (by decide)) (suL (x := 12) hI (by decide)) (ok_some (K := K1) h)
set_option maxRecDepth 100000 in
set_option maxHeartbeats 4000000 in
theorem x_L_c29 {l : Launch} {g : GH} (hG : G0 l g) (hL : g.2.2.2.2.2.1 ≤ 3584) {n : Nat} {s : Int × DT} (hI : 0 ≤ s.1 ∧ s.1 ≤ 3584) (h : ok (m_L_c29 (xsG g) g.2.2.2.2.2.1 s) (KL (P_L l g) K1)) : Px (E_L l g) 2280 [some (.ref g.2.2.2.2.1), some (vR g 0), some (vR g 73), some (vR g 102), some (vI s.1), none, none] [] (LF n) s.2 (cuF s.1 + 0) (suF s.1 + 0) := by
  refine p_aload_n dL_law_2280 rfl ?_
  refine p_aload_n dL_law_2281 rfl ?_
  refine p_iload dL_law_2282 rfl ?_
  refine p_iconst dL_law_2284 ?_
  refine p_iadd dL_law_2285 ?_
  refine q_sld hL dL_law_2286 h (fun h => ?_)
  refine p_aload_n dL_law_2287 rfl ?_
  refine p_iload dL_law_2288 rfl ?_
  refine p_iconst dL_law_2290 ?_
  refine p_iadd dL_law_2291 ?_
  refine q_sld hL dL_law_2292 h (fun h => ?_)
  refine p_aload_n dL_law_2293 rfl ?_
  refine cW_Ie [vR g 0, vI (xsG g (Int.toNat (s.1 + 1))), vI (xsG g (Int.toNat (s.1 + 2))), vR g 102] [] dL_law_2294 yw_L_served ml_L_242 (Nat.le_of_ble_eq_true rfl) rfl (Nat.le_of_ble_eq_true rfl) (cuL2 (x := 0) (y := 2) hI (by decide)) (suL2 (x := 0) (y := 12) hI (by decide)) h (fun K h => s_L_served hG h) (fun n r2294 D2294 h => ?_)
  refine p_istore dL_law_2297 (Nat.le_of_ble_eq_true rfl) rfl ?_
  refine p_aload_n dL_law_2299 rfl ?_
  refine p_aload_n dL_law_2300 rfl ?_
  refine p_iload dL_law_2301 rfl ?_
  refine p_iconst dL_law_2303 ?_
  refine p_iadd dL_law_2304 ?_
  refine q_sld hL dL_law_2305 h (fun h => ?_)
  refine p_aload_n dL_law_2306 rfl ?_
  refine p_iload dL_law_2307 rfl ?_
  refine p_iconst dL_law_2309 ?_
  refine p_iadd dL_law_2310 ?_
  refine q_sld hL dL_law_2311 h (fun h => ?_)
  refine cV_Iw [vI (xsG g (Int.toNat (s.1 + 1))), vI (xsG g (Int.toNat (s.1 + 2)))] [] dL_law_2312 yv_X11_served ml_L_244 (r := (RX11, TX11, 41)) rfl rfl (Nat.le_of_ble_eq_true rfl) rfl (Nat.le_of_ble_eq_true rfl) (cuL (x := 2) hI (by decide)) (suL (x := 12) hI (by decide)) rfl h (fun K h => s_X11_served hG h) (fun r2312 D2312 h => ?_)
  refine p_istore dL_law_2315 (Nat.le_of_ble_eq_true rfl) rfl ?_
  refine p_aload_n dL_law_2317 rfl ?_
  refine cV_Ir [] [] dL_law_2318 yv_X11_thrown ml_L_152 (r := (RX11, TX11, 41)) rfl rfl (Nat.le_of_ble_eq_true rfl) rfl (Nat.le_of_ble_eq_true rfl) (cuL (x := 2) hI (by decide)) (suL (x := 12) hI (by decide)) rfl h (fun K h => s_X11_thrown hG h) (fun r2318 h => ?_)
  refine p_iload dL_law_2321 rfl ?_
  refine q_icmp_eq (tgt := 2328) dL_law_2323 (by decide) h (fun h => ?_) (fun h => ?_)
  · refine p_iload dL_law_2328 rfl ?_
    refine q_if_ne (tgt := 2345) dL_law_2330 (by decide) h (fun h => ?_) (fun h => ?_)
    · refine p_goto (tgt := 3076) dL_law_2345 (by decide) ?_
      refine p_iinc dL_law_3076 rfl (Nat.le_of_ble_eq_true rfl) rfl ?_
      refine p_goto (tgt := 23) dL_law_3079 (by decide) ?_
      exact p_widen (cuN (x := 2) hI (by decide)) (suN (x := 12) hI (by decide)) (p_weak (leL.same (leL.same (leL.same (leL.same (leL.same (leL.drop (leL.drop leL.nil))))))) (kl_inl (P := P_L l g) h _))
    · refine p_aload_n dL_law_2333 rfl ?_
      refine p_iconst dL_law_2334 ?_
      refine q_lald dL_law_2335 rfl rfl h (fun h => ?_)
      refine p_iload dL_law_2336 rfl ?_
      refine q_i2l dL_law_2338 h (fun h => ?_)
      refine q_lcmp_eq (tgt := 2345) dL_law_2339 dL_law_2340 (by decide) h (fun h => ?_) (fun h => ?_)
      · refine p_goto (tgt := 3076) dL_law_2345 (by decide) ?_
        refine p_iinc dL_law_3076 rfl (Nat.le_of_ble_eq_true rfl) rfl ?_
        refine p_goto (tgt := 23) dL_law_3079 (by decide) ?_
        exact p_widen (cuN (x := 2) hI (by decide)) (suN (x := 12) hI (by decide)) (p_weak (leL.same (leL.same (leL.same (leL.same (leL.same (leL.drop (leL.drop leL.nil))))))) (kl_inl (P := P_L l g) h _))
      · refine p_iconst dL_law_2343 ?_
        have h := kl_inr h
        exact p_lawret dL_law_2344 (cuL (x := 2) hI (by decide)) (suL (x := 12) hI (by decide)) (ok_some (K := K1) h)
  · refine p_iconst dL_law_2326 ?_
    have h := kl_inr h
    exact p_lawret dL_law_2327 (cuL (x := 2) hI (by decide)) (suL (x := 12) hI (by decide)) (ok_some (K := K1) h)
set_option maxRecDepth 100000 in
set_option maxHeartbeats 4000000 in
theorem x_L_c30 {l : Launch} {g : GH} (hG : G0 l g) (hL : g.2.2.2.2.2.1 ≤ 3584) {n : Nat} {s : Int × DT} (hI : 0 ≤ s.1 ∧ s.1 ≤ 3584) (h : ok (m_L_c30 (xsG g) g.2.2.2.2.2.1 s) (KL (P_L l g) K1)) : Px (E_L l g) 2348 [some (.ref g.2.2.2.2.1), some (vR g 0), some (vR g 73), some (vR g 102), some (vI s.1), none, none] [] (LF n) s.2 (cuF s.1 + 0) (suF s.1 + 0) := by
  refine p_aload_n dL_law_2348 rfl ?_
  refine p_aload_n dL_law_2349 rfl ?_
  refine p_iload dL_law_2350 rfl ?_
  refine p_iconst dL_law_2352 ?_
  refine p_iadd dL_law_2353 ?_
  refine q_sld hL dL_law_2354 h (fun h => ?_)
  refine p_aload_n dL_law_2355 rfl ?_
  refine p_iload dL_law_2356 rfl ?_
  refine p_iconst dL_law_2358 ?_
  refine p_iadd dL_law_2359 ?_
  refine q_sld hL dL_law_2360 h (fun h => ?_)
  refine p_aload_n dL_law_2361 rfl ?_
  refine p_iload dL_law_2362 rfl ?_
  refine p_iconst dL_law_2364 ?_
  refine p_iadd dL_law_2365 ?_
  refine q_sld hL dL_law_2366 h (fun h => ?_)
  refine p_aload_n dL_law_2367 rfl ?_
  refine cW_Ie [vR g 0, vI (xsG g (Int.toNat (s.1 + 1))), vI (xsG g (Int.toNat (s.1 + 2))), vI (xsG g (Int.toNat (s.1 + 3))), vR g 102] [] dL_law_2368 yw_L_thinned ml_L_245 (Nat.le_of_ble_eq_true rfl) rfl (Nat.le_of_ble_eq_true rfl) (cuL2 (x := 0) (y := 2) hI (by decide)) (suL2 (x := 0) (y := 12) hI (by decide)) h (fun K h => s_L_thinned hG h) (fun n r2368 D2368 h => ?_)
  refine p_istore dL_law_2371 (Nat.le_of_ble_eq_true rfl) rfl ?_
  refine p_aload_n dL_law_2373 rfl ?_
  refine p_aload_n dL_law_2374 rfl ?_
  refine p_iload dL_law_2375 rfl ?_
  refine p_iconst dL_law_2377 ?_
  refine p_iadd dL_law_2378 ?_
  refine q_sld hL dL_law_2379 h (fun h => ?_)
  refine p_aload_n dL_law_2380 rfl ?_
  refine p_iload dL_law_2381 rfl ?_
  refine p_iconst dL_law_2383 ?_
  refine p_iadd dL_law_2384 ?_
  refine q_sld hL dL_law_2385 h (fun h => ?_)
  refine p_aload_n dL_law_2386 rfl ?_
  refine p_iload dL_law_2387 rfl ?_
  refine p_iconst dL_law_2389 ?_
  refine p_iadd dL_law_2390 ?_
  refine q_sld hL dL_law_2391 h (fun h => ?_)
  refine cV_Iw [vI (xsG g (Int.toNat (s.1 + 1))), vI (xsG g (Int.toNat (s.1 + 2))), vI (xsG g (Int.toNat (s.1 + 3)))] [] dL_law_2392 yv_X11_thinned ml_L_247 (r := (RX11, TX11, 41)) rfl rfl (Nat.le_of_ble_eq_true rfl) rfl (Nat.le_of_ble_eq_true rfl) (cuL (x := 2) hI (by decide)) (suL (x := 12) hI (by decide)) rfl h (fun K h => s_X11_thinned hG h) (fun r2392 D2392 h => ?_)
  refine p_istore dL_law_2395 (Nat.le_of_ble_eq_true rfl) rfl ?_
  refine p_aload_n dL_law_2397 rfl ?_
  refine cV_Ir [] [] dL_law_2398 yv_X11_thrown ml_L_152 (r := (RX11, TX11, 41)) rfl rfl (Nat.le_of_ble_eq_true rfl) rfl (Nat.le_of_ble_eq_true rfl) (cuL (x := 2) hI (by decide)) (suL (x := 12) hI (by decide)) rfl h (fun K h => s_X11_thrown hG h) (fun r2398 h => ?_)
  refine p_iload dL_law_2401 rfl ?_
  refine q_icmp_eq (tgt := 2408) dL_law_2403 (by decide) h (fun h => ?_) (fun h => ?_)
  · refine p_iload dL_law_2408 rfl ?_
    refine q_if_ne (tgt := 2425) dL_law_2410 (by decide) h (fun h => ?_) (fun h => ?_)
    · refine p_goto (tgt := 3076) dL_law_2425 (by decide) ?_
      refine p_iinc dL_law_3076 rfl (Nat.le_of_ble_eq_true rfl) rfl ?_
      refine p_goto (tgt := 23) dL_law_3079 (by decide) ?_
      exact p_widen (cuN (x := 2) hI (by decide)) (suN (x := 12) hI (by decide)) (p_weak (leL.same (leL.same (leL.same (leL.same (leL.same (leL.drop (leL.drop leL.nil))))))) (kl_inl (P := P_L l g) h _))
    · refine p_aload_n dL_law_2413 rfl ?_
      refine p_iconst dL_law_2414 ?_
      refine q_lald dL_law_2415 rfl rfl h (fun h => ?_)
      refine p_iload dL_law_2416 rfl ?_
      refine q_i2l dL_law_2418 h (fun h => ?_)
      refine q_lcmp_eq (tgt := 2425) dL_law_2419 dL_law_2420 (by decide) h (fun h => ?_) (fun h => ?_)
      · refine p_goto (tgt := 3076) dL_law_2425 (by decide) ?_
        refine p_iinc dL_law_3076 rfl (Nat.le_of_ble_eq_true rfl) rfl ?_
        refine p_goto (tgt := 23) dL_law_3079 (by decide) ?_
        exact p_widen (cuN (x := 2) hI (by decide)) (suN (x := 12) hI (by decide)) (p_weak (leL.same (leL.same (leL.same (leL.same (leL.same (leL.drop (leL.drop leL.nil))))))) (kl_inl (P := P_L l g) h _))
      · refine p_iconst dL_law_2423 ?_
        have h := kl_inr h
        exact p_lawret dL_law_2424 (cuL (x := 2) hI (by decide)) (suL (x := 12) hI (by decide)) (ok_some (K := K1) h)
  · refine p_iconst dL_law_2406 ?_
    have h := kl_inr h
    exact p_lawret dL_law_2407 (cuL (x := 2) hI (by decide)) (suL (x := 12) hI (by decide)) (ok_some (K := K1) h)
set_option maxRecDepth 100000 in
set_option maxHeartbeats 4000000 in
theorem x_L_c31 {l : Launch} {g : GH} (hG : G0 l g) (hL : g.2.2.2.2.2.1 ≤ 3584) {n : Nat} {s : Int × DT} (hI : 0 ≤ s.1 ∧ s.1 ≤ 3584) (h : ok (m_L_c31 (xsG g) g.2.2.2.2.2.1 s) (KL (P_L l g) K1)) : Px (E_L l g) 2428 [some (.ref g.2.2.2.2.1), some (vR g 0), some (vR g 73), some (vR g 102), some (vI s.1), none, none] [] (LF n) s.2 (cuF s.1 + 0) (suF s.1 + 0) := by
  refine p_aload_n dL_law_2428 rfl ?_
  refine p_aload_n dL_law_2429 rfl ?_
  refine p_iload dL_law_2430 rfl ?_
  refine p_iconst dL_law_2432 ?_
  refine p_iadd dL_law_2433 ?_
  refine q_sld hL dL_law_2434 h (fun h => ?_)
  refine p_aload_n dL_law_2435 rfl ?_
  refine p_iload dL_law_2436 rfl ?_
  refine p_iconst dL_law_2438 ?_
  refine p_iadd dL_law_2439 ?_
  refine q_sld hL dL_law_2440 h (fun h => ?_)
  refine p_aload_n dL_law_2441 rfl ?_
  refine cW_Ie [vR g 0, vI (xsG g (Int.toNat (s.1 + 1))), vI (xsG g (Int.toNat (s.1 + 2))), vR g 102] [] dL_law_2442 yw_L_tour ml_L_248 (Nat.le_of_ble_eq_true rfl) rfl (Nat.le_of_ble_eq_true rfl) (cuL2 (x := 0) (y := 1) hI (by decide)) (suL2 (x := 0) (y := 6) hI (by decide)) h (fun K h => s_L_tour hG h) (fun n r2442 D2442 h => ?_)
  refine p_istore dL_law_2445 (Nat.le_of_ble_eq_true rfl) rfl ?_
  refine p_aload_n dL_law_2447 rfl ?_
  refine p_aload_n dL_law_2448 rfl ?_
  refine p_iload dL_law_2449 rfl ?_
  refine p_iconst dL_law_2451 ?_
  refine p_iadd dL_law_2452 ?_
  refine q_sld hL dL_law_2453 h (fun h => ?_)
  refine p_aload_n dL_law_2454 rfl ?_
  refine p_iload dL_law_2455 rfl ?_
  refine p_iconst dL_law_2457 ?_
  refine p_iadd dL_law_2458 ?_
  refine q_sld hL dL_law_2459 h (fun h => ?_)
  refine cV_Iw [vI (xsG g (Int.toNat (s.1 + 1))), vI (xsG g (Int.toNat (s.1 + 2)))] [] dL_law_2460 yv_X11_tour ml_L_250 (r := (RX11, TX11, 41)) rfl rfl (Nat.le_of_ble_eq_true rfl) rfl (Nat.le_of_ble_eq_true rfl) (cuL (x := 1) hI (by decide)) (suL (x := 6) hI (by decide)) rfl h (fun K h => s_X11_tour hG h) (fun r2460 D2460 h => ?_)
  refine p_istore dL_law_2463 (Nat.le_of_ble_eq_true rfl) rfl ?_
  refine p_aload_n dL_law_2465 rfl ?_
  refine cV_Ir [] [] dL_law_2466 yv_X11_thrown ml_L_152 (r := (RX11, TX11, 41)) rfl rfl (Nat.le_of_ble_eq_true rfl) rfl (Nat.le_of_ble_eq_true rfl) (cuL (x := 1) hI (by decide)) (suL (x := 6) hI (by decide)) rfl h (fun K h => s_X11_thrown hG h) (fun r2466 h => ?_)
  refine p_iload dL_law_2469 rfl ?_
  refine q_icmp_eq (tgt := 2476) dL_law_2471 (by decide) h (fun h => ?_) (fun h => ?_)
  · refine p_iload dL_law_2476 rfl ?_
    refine q_if_ne (tgt := 2493) dL_law_2478 (by decide) h (fun h => ?_) (fun h => ?_)
    · refine p_goto (tgt := 3076) dL_law_2493 (by decide) ?_
      refine p_iinc dL_law_3076 rfl (Nat.le_of_ble_eq_true rfl) rfl ?_
      refine p_goto (tgt := 23) dL_law_3079 (by decide) ?_
      exact p_widen (cuN (x := 1) hI (by decide)) (suN (x := 6) hI (by decide)) (p_weak (leL.same (leL.same (leL.same (leL.same (leL.same (leL.drop (leL.drop leL.nil))))))) (kl_inl (P := P_L l g) h _))
    · refine p_aload_n dL_law_2481 rfl ?_
      refine p_iconst dL_law_2482 ?_
      refine q_lald dL_law_2483 rfl rfl h (fun h => ?_)
      refine p_iload dL_law_2484 rfl ?_
      refine q_i2l dL_law_2486 h (fun h => ?_)
      refine q_lcmp_eq (tgt := 2493) dL_law_2487 dL_law_2488 (by decide) h (fun h => ?_) (fun h => ?_)
      · refine p_goto (tgt := 3076) dL_law_2493 (by decide) ?_
        refine p_iinc dL_law_3076 rfl (Nat.le_of_ble_eq_true rfl) rfl ?_
        refine p_goto (tgt := 23) dL_law_3079 (by decide) ?_
        exact p_widen (cuN (x := 1) hI (by decide)) (suN (x := 6) hI (by decide)) (p_weak (leL.same (leL.same (leL.same (leL.same (leL.same (leL.drop (leL.drop leL.nil))))))) (kl_inl (P := P_L l g) h _))
      · refine p_iconst dL_law_2491 ?_
        have h := kl_inr h
        exact p_lawret dL_law_2492 (cuL (x := 1) hI (by decide)) (suL (x := 6) hI (by decide)) (ok_some (K := K1) h)
  · refine p_iconst dL_law_2474 ?_
    have h := kl_inr h
    exact p_lawret dL_law_2475 (cuL (x := 1) hI (by decide)) (suL (x := 6) hI (by decide)) (ok_some (K := K1) h)
set_option maxRecDepth 100000 in
set_option maxHeartbeats 4000000 in
theorem x_L_c32 {l : Launch} {g : GH} (hG : G0 l g) (hL : g.2.2.2.2.2.1 ≤ 3584) {n : Nat} {s : Int × DT} (hI : 0 ≤ s.1 ∧ s.1 ≤ 3584) (h : ok (m_L_c32 (xsG g) g.2.2.2.2.2.1 s) (KL (P_L l g) K1)) : Px (E_L l g) 2496 [some (.ref g.2.2.2.2.1), some (vR g 0), some (vR g 73), some (vR g 102), some (vI s.1), none, none] [] (LF n) s.2 (cuF s.1 + 0) (suF s.1 + 0) := by
  refine p_aload_n dL_law_2496 rfl ?_
  refine p_aload_n dL_law_2497 rfl ?_
  refine p_iload dL_law_2498 rfl ?_
  refine p_iconst dL_law_2500 ?_
  refine p_iadd dL_law_2501 ?_
  refine q_sld hL dL_law_2502 h (fun h => ?_)
  refine p_aload_n dL_law_2503 rfl ?_
  refine cW_Ie [vR g 0, vI (xsG g (Int.toNat (s.1 + 1))), vR g 102] [] dL_law_2504 yw_L_way ml_L_251 (Nat.le_of_ble_eq_true rfl) rfl (Nat.le_of_ble_eq_true rfl) (cuL2 (x := 0) (y := 1) hI (by decide)) (suL2 (x := 0) (y := 6) hI (by decide)) h (fun K h => s_L_way hG h) (fun n r2504 D2504 h => ?_)
  refine p_istore dL_law_2507 (Nat.le_of_ble_eq_true rfl) rfl ?_
  refine p_aload_n dL_law_2509 rfl ?_
  refine p_aload_n dL_law_2510 rfl ?_
  refine p_iload dL_law_2511 rfl ?_
  refine p_iconst dL_law_2513 ?_
  refine p_iadd dL_law_2514 ?_
  refine q_sld hL dL_law_2515 h (fun h => ?_)
  refine cV_Iw [vI (xsG g (Int.toNat (s.1 + 1)))] [] dL_law_2516 yv_X11_way ml_L_253 (r := (RX11, TX11, 41)) rfl rfl (Nat.le_of_ble_eq_true rfl) rfl (Nat.le_of_ble_eq_true rfl) (cuL (x := 1) hI (by decide)) (suL (x := 6) hI (by decide)) rfl h (fun K h => s_X11_way hG h) (fun r2516 D2516 h => ?_)
  refine p_istore dL_law_2519 (Nat.le_of_ble_eq_true rfl) rfl ?_
  refine p_aload_n dL_law_2521 rfl ?_
  refine cV_Ir [] [] dL_law_2522 yv_X11_thrown ml_L_152 (r := (RX11, TX11, 41)) rfl rfl (Nat.le_of_ble_eq_true rfl) rfl (Nat.le_of_ble_eq_true rfl) (cuL (x := 1) hI (by decide)) (suL (x := 6) hI (by decide)) rfl h (fun K h => s_X11_thrown hG h) (fun r2522 h => ?_)
  refine p_iload dL_law_2525 rfl ?_
  refine q_icmp_eq (tgt := 2532) dL_law_2527 (by decide) h (fun h => ?_) (fun h => ?_)
  · refine p_iload dL_law_2532 rfl ?_
    refine q_if_ne (tgt := 2549) dL_law_2534 (by decide) h (fun h => ?_) (fun h => ?_)
    · refine p_goto (tgt := 3076) dL_law_2549 (by decide) ?_
      refine p_iinc dL_law_3076 rfl (Nat.le_of_ble_eq_true rfl) rfl ?_
      refine p_goto (tgt := 23) dL_law_3079 (by decide) ?_
      exact p_widen (cuN (x := 1) hI (by decide)) (suN (x := 6) hI (by decide)) (p_weak (leL.same (leL.same (leL.same (leL.same (leL.same (leL.drop (leL.drop leL.nil))))))) (kl_inl (P := P_L l g) h _))
    · refine p_aload_n dL_law_2537 rfl ?_
      refine p_iconst dL_law_2538 ?_
      refine q_lald dL_law_2539 rfl rfl h (fun h => ?_)
      refine p_iload dL_law_2540 rfl ?_
      refine q_i2l dL_law_2542 h (fun h => ?_)
      refine q_lcmp_eq (tgt := 2549) dL_law_2543 dL_law_2544 (by decide) h (fun h => ?_) (fun h => ?_)
      · refine p_goto (tgt := 3076) dL_law_2549 (by decide) ?_
        refine p_iinc dL_law_3076 rfl (Nat.le_of_ble_eq_true rfl) rfl ?_
        refine p_goto (tgt := 23) dL_law_3079 (by decide) ?_
        exact p_widen (cuN (x := 1) hI (by decide)) (suN (x := 6) hI (by decide)) (p_weak (leL.same (leL.same (leL.same (leL.same (leL.same (leL.drop (leL.drop leL.nil))))))) (kl_inl (P := P_L l g) h _))
      · refine p_iconst dL_law_2547 ?_
        have h := kl_inr h
        exact p_lawret dL_law_2548 (cuL (x := 1) hI (by decide)) (suL (x := 6) hI (by decide)) (ok_some (K := K1) h)
  · refine p_iconst dL_law_2530 ?_
    have h := kl_inr h
    exact p_lawret dL_law_2531 (cuL (x := 1) hI (by decide)) (suL (x := 6) hI (by decide)) (ok_some (K := K1) h)
set_option maxRecDepth 100000 in
set_option maxHeartbeats 4000000 in
theorem x_L_c33 {l : Launch} {g : GH} (hG : G0 l g) (hL : g.2.2.2.2.2.1 ≤ 3584) {n : Nat} {s : Int × DT} (hI : 0 ≤ s.1 ∧ s.1 ≤ 3584) (h : ok (m_L_c33 (xsG g) g.2.2.2.2.2.1 s) (KL (P_L l g) K1)) : Px (E_L l g) 2552 [some (.ref g.2.2.2.2.1), some (vR g 0), some (vR g 73), some (vR g 102), some (vI s.1), none, none] [] (LF n) s.2 (cuF s.1 + 0) (suF s.1 + 0) := by
  refine p_aload_n dL_law_2552 rfl ?_
  refine p_aload_n dL_law_2553 rfl ?_
  refine p_iload dL_law_2554 rfl ?_
  refine p_iconst dL_law_2556 ?_
  refine p_iadd dL_law_2557 ?_
  refine q_sld hL dL_law_2558 h (fun h => ?_)
  refine p_aload_n dL_law_2559 rfl ?_
  refine p_iload dL_law_2560 rfl ?_
  refine p_iconst dL_law_2562 ?_
  refine p_iadd dL_law_2563 ?_
  refine q_sld hL dL_law_2564 h (fun h => ?_)
  refine p_aload_n dL_law_2565 rfl ?_
  refine cW_Ie [vR g 0, vI (xsG g (Int.toNat (s.1 + 1))), vI (xsG g (Int.toNat (s.1 + 2))), vR g 102] [] dL_law_2566 yw_L_hull ml_L_254 (Nat.le_of_ble_eq_true rfl) rfl (Nat.le_of_ble_eq_true rfl) (cuL2 (x := 0) (y := 1) hI (by decide)) (suL2 (x := 0) (y := 6) hI (by decide)) h (fun K h => s_L_hull hG h) (fun n r2566 D2566 h => ?_)
  refine p_istore dL_law_2569 (Nat.le_of_ble_eq_true rfl) rfl ?_
  refine p_aload_n dL_law_2571 rfl ?_
  refine p_aload_n dL_law_2572 rfl ?_
  refine p_iload dL_law_2573 rfl ?_
  refine p_iconst dL_law_2575 ?_
  refine p_iadd dL_law_2576 ?_
  refine q_sld hL dL_law_2577 h (fun h => ?_)
  refine p_aload_n dL_law_2578 rfl ?_
  refine p_iload dL_law_2579 rfl ?_
  refine p_iconst dL_law_2581 ?_
  refine p_iadd dL_law_2582 ?_
  refine q_sld hL dL_law_2583 h (fun h => ?_)
  refine cV_Iw [vI (xsG g (Int.toNat (s.1 + 1))), vI (xsG g (Int.toNat (s.1 + 2)))] [] dL_law_2584 yv_X11_hull ml_L_256 (r := (RX11, TX11, 41)) rfl rfl (Nat.le_of_ble_eq_true rfl) rfl (Nat.le_of_ble_eq_true rfl) (cuL (x := 1) hI (by decide)) (suL (x := 6) hI (by decide)) rfl h (fun K h => s_X11_hull hG h) (fun r2584 D2584 h => ?_)
  refine p_istore dL_law_2587 (Nat.le_of_ble_eq_true rfl) rfl ?_
  refine p_aload_n dL_law_2589 rfl ?_
  refine cV_Ir [] [] dL_law_2590 yv_X11_thrown ml_L_152 (r := (RX11, TX11, 41)) rfl rfl (Nat.le_of_ble_eq_true rfl) rfl (Nat.le_of_ble_eq_true rfl) (cuL (x := 1) hI (by decide)) (suL (x := 6) hI (by decide)) rfl h (fun K h => s_X11_thrown hG h) (fun r2590 h => ?_)
  refine p_iload dL_law_2593 rfl ?_
  refine q_icmp_eq (tgt := 2600) dL_law_2595 (by decide) h (fun h => ?_) (fun h => ?_)
  · refine p_iload dL_law_2600 rfl ?_
    refine q_if_ne (tgt := 2617) dL_law_2602 (by decide) h (fun h => ?_) (fun h => ?_)
    · refine p_goto (tgt := 3076) dL_law_2617 (by decide) ?_
      refine p_iinc dL_law_3076 rfl (Nat.le_of_ble_eq_true rfl) rfl ?_
      refine p_goto (tgt := 23) dL_law_3079 (by decide) ?_
      exact p_widen (cuN (x := 1) hI (by decide)) (suN (x := 6) hI (by decide)) (p_weak (leL.same (leL.same (leL.same (leL.same (leL.same (leL.drop (leL.drop leL.nil))))))) (kl_inl (P := P_L l g) h _))
    · refine p_aload_n dL_law_2605 rfl ?_
      refine p_iconst dL_law_2606 ?_
      refine q_lald dL_law_2607 rfl rfl h (fun h => ?_)
      refine p_iload dL_law_2608 rfl ?_
      refine q_i2l dL_law_2610 h (fun h => ?_)
      refine q_lcmp_eq (tgt := 2617) dL_law_2611 dL_law_2612 (by decide) h (fun h => ?_) (fun h => ?_)
      · refine p_goto (tgt := 3076) dL_law_2617 (by decide) ?_
        refine p_iinc dL_law_3076 rfl (Nat.le_of_ble_eq_true rfl) rfl ?_
        refine p_goto (tgt := 23) dL_law_3079 (by decide) ?_
        exact p_widen (cuN (x := 1) hI (by decide)) (suN (x := 6) hI (by decide)) (p_weak (leL.same (leL.same (leL.same (leL.same (leL.same (leL.drop (leL.drop leL.nil))))))) (kl_inl (P := P_L l g) h _))
      · refine p_iconst dL_law_2615 ?_
        have h := kl_inr h
        exact p_lawret dL_law_2616 (cuL (x := 1) hI (by decide)) (suL (x := 6) hI (by decide)) (ok_some (K := K1) h)
  · refine p_iconst dL_law_2598 ?_
    have h := kl_inr h
    exact p_lawret dL_law_2599 (cuL (x := 1) hI (by decide)) (suL (x := 6) hI (by decide)) (ok_some (K := K1) h)
set_option maxRecDepth 100000 in
set_option maxHeartbeats 4000000 in
theorem x_L_c34 {l : Launch} {g : GH} (hG : G0 l g) (hL : g.2.2.2.2.2.1 ≤ 3584) {n : Nat} {s : Int × DT} (hI : 0 ≤ s.1 ∧ s.1 ≤ 3584) (h : ok (m_L_c34 (xsG g) g.2.2.2.2.2.1 s) (KL (P_L l g) K1)) : Px (E_L l g) 2620 [some (.ref g.2.2.2.2.1), some (vR g 0), some (vR g 73), some (vR g 102), some (vI s.1), none, none] [] (LF n) s.2 (cuF s.1 + 0) (suF s.1 + 0) := by
  refine p_aload_n dL_law_2620 rfl ?_
  refine p_aload_n dL_law_2621 rfl ?_
  refine p_iload dL_law_2622 rfl ?_
  refine p_iconst dL_law_2624 ?_
  refine p_iadd dL_law_2625 ?_
  refine q_sld hL dL_law_2626 h (fun h => ?_)
  refine p_aload_n dL_law_2627 rfl ?_
  refine cW_Ie [vR g 0, vI (xsG g (Int.toNat (s.1 + 1))), vR g 102] [] dL_law_2628 yw_L_area ml_L_257 (Nat.le_of_ble_eq_true rfl) rfl (Nat.le_of_ble_eq_true rfl) (cuL2 (x := 0) (y := 1) hI (by decide)) (suL2 (x := 0) (y := 6) hI (by decide)) h (fun K h => s_L_area hG h) (fun n r2628 D2628 h => ?_)
  refine p_istore dL_law_2631 (Nat.le_of_ble_eq_true rfl) rfl ?_
  refine p_aload_n dL_law_2633 rfl ?_
  refine p_aload_n dL_law_2634 rfl ?_
  refine p_iload dL_law_2635 rfl ?_
  refine p_iconst dL_law_2637 ?_
  refine p_iadd dL_law_2638 ?_
  refine q_sld hL dL_law_2639 h (fun h => ?_)
  refine cV_Iw [vI (xsG g (Int.toNat (s.1 + 1)))] [] dL_law_2640 yv_X11_area ml_L_259 (r := (RX11, TX11, 41)) rfl rfl (Nat.le_of_ble_eq_true rfl) rfl (Nat.le_of_ble_eq_true rfl) (cuL (x := 1) hI (by decide)) (suL (x := 6) hI (by decide)) rfl h (fun K h => s_X11_area hG h) (fun r2640 D2640 h => ?_)
  refine p_istore dL_law_2643 (Nat.le_of_ble_eq_true rfl) rfl ?_
  refine p_aload_n dL_law_2645 rfl ?_
  refine cV_Ir [] [] dL_law_2646 yv_X11_thrown ml_L_152 (r := (RX11, TX11, 41)) rfl rfl (Nat.le_of_ble_eq_true rfl) rfl (Nat.le_of_ble_eq_true rfl) (cuL (x := 1) hI (by decide)) (suL (x := 6) hI (by decide)) rfl h (fun K h => s_X11_thrown hG h) (fun r2646 h => ?_)
  refine p_iload dL_law_2649 rfl ?_
  refine q_icmp_eq (tgt := 2656) dL_law_2651 (by decide) h (fun h => ?_) (fun h => ?_)
  · refine p_iload dL_law_2656 rfl ?_
    refine q_if_ne (tgt := 2673) dL_law_2658 (by decide) h (fun h => ?_) (fun h => ?_)
    · refine p_goto (tgt := 3076) dL_law_2673 (by decide) ?_
      refine p_iinc dL_law_3076 rfl (Nat.le_of_ble_eq_true rfl) rfl ?_
      refine p_goto (tgt := 23) dL_law_3079 (by decide) ?_
      exact p_widen (cuN (x := 1) hI (by decide)) (suN (x := 6) hI (by decide)) (p_weak (leL.same (leL.same (leL.same (leL.same (leL.same (leL.drop (leL.drop leL.nil))))))) (kl_inl (P := P_L l g) h _))
    · refine p_aload_n dL_law_2661 rfl ?_
      refine p_iconst dL_law_2662 ?_
      refine q_lald dL_law_2663 rfl rfl h (fun h => ?_)
      refine p_iload dL_law_2664 rfl ?_
      refine q_i2l dL_law_2666 h (fun h => ?_)
      refine q_lcmp_eq (tgt := 2673) dL_law_2667 dL_law_2668 (by decide) h (fun h => ?_) (fun h => ?_)
      · refine p_goto (tgt := 3076) dL_law_2673 (by decide) ?_
        refine p_iinc dL_law_3076 rfl (Nat.le_of_ble_eq_true rfl) rfl ?_
        refine p_goto (tgt := 23) dL_law_3079 (by decide) ?_
        exact p_widen (cuN (x := 1) hI (by decide)) (suN (x := 6) hI (by decide)) (p_weak (leL.same (leL.same (leL.same (leL.same (leL.same (leL.drop (leL.drop leL.nil))))))) (kl_inl (P := P_L l g) h _))
      · refine p_iconst dL_law_2671 ?_
        have h := kl_inr h
        exact p_lawret dL_law_2672 (cuL (x := 1) hI (by decide)) (suL (x := 6) hI (by decide)) (ok_some (K := K1) h)
  · refine p_iconst dL_law_2654 ?_
    have h := kl_inr h
    exact p_lawret dL_law_2655 (cuL (x := 1) hI (by decide)) (suL (x := 6) hI (by decide)) (ok_some (K := K1) h)
set_option maxRecDepth 100000 in
set_option maxHeartbeats 4000000 in
theorem x_L_c35 {l : Launch} {g : GH} (hG : G0 l g) (hL : g.2.2.2.2.2.1 ≤ 3584) {n : Nat} {s : Int × DT} (hI : 0 ≤ s.1 ∧ s.1 ≤ 3584) (h : ok (m_L_c35 (xsG g) g.2.2.2.2.2.1 s) (KL (P_L l g) K1)) : Px (E_L l g) 2676 [some (.ref g.2.2.2.2.1), some (vR g 0), some (vR g 73), some (vR g 102), some (vI s.1), none, none] [] (LF n) s.2 (cuF s.1 + 0) (suF s.1 + 0) := by
  refine p_aload_n dL_law_2676 rfl ?_
  refine p_aload_n dL_law_2677 rfl ?_
  refine p_iload dL_law_2678 rfl ?_
  refine p_iconst dL_law_2680 ?_
  refine p_iadd dL_law_2681 ?_
  refine q_sld hL dL_law_2682 h (fun h => ?_)
  refine p_aload_n dL_law_2683 rfl ?_
  refine p_iload dL_law_2684 rfl ?_
  refine p_iconst dL_law_2686 ?_
  refine p_iadd dL_law_2687 ?_
  refine q_sld hL dL_law_2688 h (fun h => ?_)
  refine p_aload_n dL_law_2689 rfl ?_
  refine cW_Ie [vR g 0, vI (xsG g (Int.toNat (s.1 + 1))), vI (xsG g (Int.toNat (s.1 + 2))), vR g 102] [] dL_law_2690 yw_L_middle ml_L_260 (Nat.le_of_ble_eq_true rfl) rfl (Nat.le_of_ble_eq_true rfl) (cuL2 (x := 0) (y := 2) hI (by decide)) (suL2 (x := 0) (y := 12) hI (by decide)) h (fun K h => s_L_middle hG h) (fun n r2690 D2690 h => ?_)
  refine p_istore dL_law_2693 (Nat.le_of_ble_eq_true rfl) rfl ?_
  refine p_aload_n dL_law_2695 rfl ?_
  refine p_aload_n dL_law_2696 rfl ?_
  refine p_iload dL_law_2697 rfl ?_
  refine p_iconst dL_law_2699 ?_
  refine p_iadd dL_law_2700 ?_
  refine q_sld hL dL_law_2701 h (fun h => ?_)
  refine p_aload_n dL_law_2702 rfl ?_
  refine p_iload dL_law_2703 rfl ?_
  refine p_iconst dL_law_2705 ?_
  refine p_iadd dL_law_2706 ?_
  refine q_sld hL dL_law_2707 h (fun h => ?_)
  refine cV_Iw [vI (xsG g (Int.toNat (s.1 + 1))), vI (xsG g (Int.toNat (s.1 + 2)))] [] dL_law_2708 yv_X11_middle ml_L_262 (r := (RX11, TX11, 41)) rfl rfl (Nat.le_of_ble_eq_true rfl) rfl (Nat.le_of_ble_eq_true rfl) (cuL (x := 2) hI (by decide)) (suL (x := 12) hI (by decide)) rfl h (fun K h => s_X11_middle hG h) (fun r2708 D2708 h => ?_)
  refine p_istore dL_law_2711 (Nat.le_of_ble_eq_true rfl) rfl ?_
  refine p_aload_n dL_law_2713 rfl ?_
  refine cV_Ir [] [] dL_law_2714 yv_X11_thrown ml_L_152 (r := (RX11, TX11, 41)) rfl rfl (Nat.le_of_ble_eq_true rfl) rfl (Nat.le_of_ble_eq_true rfl) (cuL (x := 2) hI (by decide)) (suL (x := 12) hI (by decide)) rfl h (fun K h => s_X11_thrown hG h) (fun r2714 h => ?_)
  refine p_iload dL_law_2717 rfl ?_
  refine q_icmp_eq (tgt := 2724) dL_law_2719 (by decide) h (fun h => ?_) (fun h => ?_)
  · refine p_iload dL_law_2724 rfl ?_
    refine q_if_ne (tgt := 2741) dL_law_2726 (by decide) h (fun h => ?_) (fun h => ?_)
    · refine p_goto (tgt := 3076) dL_law_2741 (by decide) ?_
      refine p_iinc dL_law_3076 rfl (Nat.le_of_ble_eq_true rfl) rfl ?_
      refine p_goto (tgt := 23) dL_law_3079 (by decide) ?_
      exact p_widen (cuN (x := 2) hI (by decide)) (suN (x := 12) hI (by decide)) (p_weak (leL.same (leL.same (leL.same (leL.same (leL.same (leL.drop (leL.drop leL.nil))))))) (kl_inl (P := P_L l g) h _))
    · refine p_aload_n dL_law_2729 rfl ?_
      refine p_iconst dL_law_2730 ?_
      refine q_lald dL_law_2731 rfl rfl h (fun h => ?_)
      refine p_iload dL_law_2732 rfl ?_
      refine q_i2l dL_law_2734 h (fun h => ?_)
      refine q_lcmp_eq (tgt := 2741) dL_law_2735 dL_law_2736 (by decide) h (fun h => ?_) (fun h => ?_)
      · refine p_goto (tgt := 3076) dL_law_2741 (by decide) ?_
        refine p_iinc dL_law_3076 rfl (Nat.le_of_ble_eq_true rfl) rfl ?_
        refine p_goto (tgt := 23) dL_law_3079 (by decide) ?_
        exact p_widen (cuN (x := 2) hI (by decide)) (suN (x := 12) hI (by decide)) (p_weak (leL.same (leL.same (leL.same (leL.same (leL.same (leL.drop (leL.drop leL.nil))))))) (kl_inl (P := P_L l g) h _))
      · refine p_iconst dL_law_2739 ?_
        have h := kl_inr h
        exact p_lawret dL_law_2740 (cuL (x := 2) hI (by decide)) (suL (x := 12) hI (by decide)) (ok_some (K := K1) h)
  · refine p_iconst dL_law_2722 ?_
    have h := kl_inr h
    exact p_lawret dL_law_2723 (cuL (x := 2) hI (by decide)) (suL (x := 12) hI (by decide)) (ok_some (K := K1) h)
set_option maxRecDepth 100000 in
set_option maxHeartbeats 4000000 in
theorem x_L_c36 {l : Launch} {g : GH} (hG : G0 l g) (hL : g.2.2.2.2.2.1 ≤ 3584) {n : Nat} {s : Int × DT} (hI : 0 ≤ s.1 ∧ s.1 ≤ 3584) (h : ok (m_L_c36 (xsG g) g.2.2.2.2.2.1 s) (KL (P_L l g) K1)) : Px (E_L l g) 2744 [some (.ref g.2.2.2.2.1), some (vR g 0), some (vR g 73), some (vR g 102), some (vI s.1), none, none] [] (LF n) s.2 (cuF s.1 + 0) (suF s.1 + 0) := by
  refine p_aload_n dL_law_2744 rfl ?_
  refine p_aload_n dL_law_2745 rfl ?_
  refine p_iload dL_law_2746 rfl ?_
  refine p_iconst dL_law_2748 ?_
  refine p_iadd dL_law_2749 ?_
  refine q_sld hL dL_law_2750 h (fun h => ?_)
  refine q_if_eq (tgt := 2758) dL_law_2751 (by decide) h (fun h => ?_) (fun h => ?_)
  · refine p_iconst dL_law_2758 ?_
    refine p_aload_n dL_law_2759 rfl ?_
    refine p_iload dL_law_2760 rfl ?_
    refine p_iconst dL_law_2762 ?_
    refine p_iadd dL_law_2763 ?_
    refine q_sld hL dL_law_2764 h (fun h => ?_)
    refine p_aload_n dL_law_2765 rfl ?_
    refine p_iload dL_law_2766 rfl ?_
    refine p_iconst dL_law_2768 ?_
    refine p_iadd dL_law_2769 ?_
    refine q_sld hL dL_law_2770 h (fun h => ?_)
    refine p_aload_n dL_law_2771 rfl ?_
    refine cW_Ie [vR g 0, vI 0, vI (xsG g (Int.toNat (s.1 + 2))), vI (xsG g (Int.toNat (s.1 + 3))), vR g 102] [] dL_law_2772 yw_L_line ml_L_263 (Nat.le_of_ble_eq_true rfl) rfl (Nat.le_of_ble_eq_true rfl) (cuL2 (x := 0) (y := 1) hI (by decide)) (suL2 (x := 0) (y := 6) hI (by decide)) h (fun K h => s_L_line hG h) (fun n r2772 D2772 h => ?_)
    refine p_istore dL_law_2775 (Nat.le_of_ble_eq_true rfl) rfl ?_
    refine p_aload_n dL_law_2777 rfl ?_
    refine p_aload_n dL_law_2778 rfl ?_
    refine p_iload dL_law_2779 rfl ?_
    refine p_iconst dL_law_2781 ?_
    refine p_iadd dL_law_2782 ?_
    refine q_sld hL dL_law_2783 h (fun h => ?_)
    refine q_if_eq (tgt := 2791) dL_law_2784 (by decide) h (fun h => ?_) (fun h => ?_)
    · refine p_iconst dL_law_2791 ?_
      refine p_aload_n dL_law_2792 rfl ?_
      refine p_iload dL_law_2793 rfl ?_
      refine p_iconst dL_law_2795 ?_
      refine p_iadd dL_law_2796 ?_
      refine q_sld hL dL_law_2797 h (fun h => ?_)
      refine p_aload_n dL_law_2798 rfl ?_
      refine p_iload dL_law_2799 rfl ?_
      refine p_iconst dL_law_2801 ?_
      refine p_iadd dL_law_2802 ?_
      refine q_sld hL dL_law_2803 h (fun h => ?_)
      refine cV_Iw [vI 0, vI (xsG g (Int.toNat (s.1 + 2))), vI (xsG g (Int.toNat (s.1 + 3)))] [] dL_law_2804 yv_X11_line_ ml_L_266 (r := (RX11, TX11, 41)) rfl rfl (Nat.le_of_ble_eq_true rfl) rfl (Nat.le_of_ble_eq_true rfl) (cuL (x := 1) hI (by decide)) (suL (x := 6) hI (by decide)) rfl h (fun K h => s_X11_line_ hG h) (fun r2804 D2804 h => ?_)
      refine p_istore dL_law_2807 (Nat.le_of_ble_eq_true rfl) rfl ?_
      refine p_aload_n dL_law_2809 rfl ?_
      refine cV_Ir [] [] dL_law_2810 yv_X11_thrown ml_L_152 (r := (RX11, TX11, 41)) rfl rfl (Nat.le_of_ble_eq_true rfl) rfl (Nat.le_of_ble_eq_true rfl) (cuL (x := 1) hI (by decide)) (suL (x := 6) hI (by decide)) rfl h (fun K h => s_X11_thrown hG h) (fun r2810 h => ?_)
      refine p_iload dL_law_2813 rfl ?_
      refine q_icmp_eq (tgt := 2820) dL_law_2815 (by decide) h (fun h => ?_) (fun h => ?_)
      · refine p_iload dL_law_2820 rfl ?_
        refine q_if_ne (tgt := 2837) dL_law_2822 (by decide) h (fun h => ?_) (fun h => ?_)
        · refine p_goto (tgt := 3076) dL_law_2837 (by decide) ?_
          refine p_iinc dL_law_3076 rfl (Nat.le_of_ble_eq_true rfl) rfl ?_
          refine p_goto (tgt := 23) dL_law_3079 (by decide) ?_
          exact p_widen (cuN (x := 1) hI (by decide)) (suN (x := 6) hI (by decide)) (p_weak (leL.same (leL.same (leL.same (leL.same (leL.same (leL.drop (leL.drop leL.nil))))))) (kl_inl (P := P_L l g) h _))
        · refine p_aload_n dL_law_2825 rfl ?_
          refine p_iconst dL_law_2826 ?_
          refine q_lald dL_law_2827 rfl rfl h (fun h => ?_)
          refine p_iload dL_law_2828 rfl ?_
          refine q_i2l dL_law_2830 h (fun h => ?_)
          refine q_lcmp_eq (tgt := 2837) dL_law_2831 dL_law_2832 (by decide) h (fun h => ?_) (fun h => ?_)
          · refine p_goto (tgt := 3076) dL_law_2837 (by decide) ?_
            refine p_iinc dL_law_3076 rfl (Nat.le_of_ble_eq_true rfl) rfl ?_
            refine p_goto (tgt := 23) dL_law_3079 (by decide) ?_
            exact p_widen (cuN (x := 1) hI (by decide)) (suN (x := 6) hI (by decide)) (p_weak (leL.same (leL.same (leL.same (leL.same (leL.same (leL.drop (leL.drop leL.nil))))))) (kl_inl (P := P_L l g) h _))
          · refine p_iconst dL_law_2835 ?_
            have h := kl_inr h
            exact p_lawret dL_law_2836 (cuL (x := 1) hI (by decide)) (suL (x := 6) hI (by decide)) (ok_some (K := K1) h)
      · refine p_iconst dL_law_2818 ?_
        have h := kl_inr h
        exact p_lawret dL_law_2819 (cuL (x := 1) hI (by decide)) (suL (x := 6) hI (by decide)) (ok_some (K := K1) h)
    · refine p_iconst dL_law_2787 ?_
      refine p_goto (tgt := 2792) dL_law_2788 (by decide) ?_
      refine p_aload_n dL_law_2792 rfl ?_
      refine p_iload dL_law_2793 rfl ?_
      refine p_iconst dL_law_2795 ?_
      refine p_iadd dL_law_2796 ?_
      refine q_sld hL dL_law_2797 h (fun h => ?_)
      refine p_aload_n dL_law_2798 rfl ?_
      refine p_iload dL_law_2799 rfl ?_
      refine p_iconst dL_law_2801 ?_
      refine p_iadd dL_law_2802 ?_
      refine q_sld hL dL_law_2803 h (fun h => ?_)
      refine cV_Iw [vI 1, vI (xsG g (Int.toNat (s.1 + 2))), vI (xsG g (Int.toNat (s.1 + 3)))] [] dL_law_2804 yv_X11_line_ ml_L_266 (r := (RX11, TX11, 41)) rfl rfl (Nat.le_of_ble_eq_true rfl) rfl (Nat.le_of_ble_eq_true rfl) (cuL (x := 1) hI (by decide)) (suL (x := 6) hI (by decide)) rfl h (fun K h => s_X11_line_ hG h) (fun r2804 D2804 h => ?_)
      refine p_istore dL_law_2807 (Nat.le_of_ble_eq_true rfl) rfl ?_
      refine p_aload_n dL_law_2809 rfl ?_
      refine cV_Ir [] [] dL_law_2810 yv_X11_thrown ml_L_152 (r := (RX11, TX11, 41)) rfl rfl (Nat.le_of_ble_eq_true rfl) rfl (Nat.le_of_ble_eq_true rfl) (cuL (x := 1) hI (by decide)) (suL (x := 6) hI (by decide)) rfl h (fun K h => s_X11_thrown hG h) (fun r2810 h => ?_)
      refine p_iload dL_law_2813 rfl ?_
      refine q_icmp_eq (tgt := 2820) dL_law_2815 (by decide) h (fun h => ?_) (fun h => ?_)
      · refine p_iload dL_law_2820 rfl ?_
        refine q_if_ne (tgt := 2837) dL_law_2822 (by decide) h (fun h => ?_) (fun h => ?_)
        · refine p_goto (tgt := 3076) dL_law_2837 (by decide) ?_
          refine p_iinc dL_law_3076 rfl (Nat.le_of_ble_eq_true rfl) rfl ?_
          refine p_goto (tgt := 23) dL_law_3079 (by decide) ?_
          exact p_widen (cuN (x := 1) hI (by decide)) (suN (x := 6) hI (by decide)) (p_weak (leL.same (leL.same (leL.same (leL.same (leL.same (leL.drop (leL.drop leL.nil))))))) (kl_inl (P := P_L l g) h _))
        · refine p_aload_n dL_law_2825 rfl ?_
          refine p_iconst dL_law_2826 ?_
          refine q_lald dL_law_2827 rfl rfl h (fun h => ?_)
          refine p_iload dL_law_2828 rfl ?_
          refine q_i2l dL_law_2830 h (fun h => ?_)
          refine q_lcmp_eq (tgt := 2837) dL_law_2831 dL_law_2832 (by decide) h (fun h => ?_) (fun h => ?_)
          · refine p_goto (tgt := 3076) dL_law_2837 (by decide) ?_
            refine p_iinc dL_law_3076 rfl (Nat.le_of_ble_eq_true rfl) rfl ?_
            refine p_goto (tgt := 23) dL_law_3079 (by decide) ?_
            exact p_widen (cuN (x := 1) hI (by decide)) (suN (x := 6) hI (by decide)) (p_weak (leL.same (leL.same (leL.same (leL.same (leL.same (leL.drop (leL.drop leL.nil))))))) (kl_inl (P := P_L l g) h _))
          · refine p_iconst dL_law_2835 ?_
            have h := kl_inr h
            exact p_lawret dL_law_2836 (cuL (x := 1) hI (by decide)) (suL (x := 6) hI (by decide)) (ok_some (K := K1) h)
      · refine p_iconst dL_law_2818 ?_
        have h := kl_inr h
        exact p_lawret dL_law_2819 (cuL (x := 1) hI (by decide)) (suL (x := 6) hI (by decide)) (ok_some (K := K1) h)
  · refine p_iconst dL_law_2754 ?_
    refine p_goto (tgt := 2759) dL_law_2755 (by decide) ?_
    refine p_aload_n dL_law_2759 rfl ?_
    refine p_iload dL_law_2760 rfl ?_
    refine p_iconst dL_law_2762 ?_
    refine p_iadd dL_law_2763 ?_
    refine q_sld hL dL_law_2764 h (fun h => ?_)
    refine p_aload_n dL_law_2765 rfl ?_
    refine p_iload dL_law_2766 rfl ?_
    refine p_iconst dL_law_2768 ?_
    refine p_iadd dL_law_2769 ?_
    refine q_sld hL dL_law_2770 h (fun h => ?_)
    refine p_aload_n dL_law_2771 rfl ?_
    refine cW_Ie [vR g 0, vI 1, vI (xsG g (Int.toNat (s.1 + 2))), vI (xsG g (Int.toNat (s.1 + 3))), vR g 102] [] dL_law_2772 yw_L_line ml_L_263 (Nat.le_of_ble_eq_true rfl) rfl (Nat.le_of_ble_eq_true rfl) (cuL2 (x := 0) (y := 1) hI (by decide)) (suL2 (x := 0) (y := 6) hI (by decide)) h (fun K h => s_L_line hG h) (fun n r2772 D2772 h => ?_)
    refine p_istore dL_law_2775 (Nat.le_of_ble_eq_true rfl) rfl ?_
    refine p_aload_n dL_law_2777 rfl ?_
    refine p_aload_n dL_law_2778 rfl ?_
    refine p_iload dL_law_2779 rfl ?_
    refine p_iconst dL_law_2781 ?_
    refine p_iadd dL_law_2782 ?_
    refine q_sld hL dL_law_2783 h (fun h => ?_)
    refine q_if_eq (tgt := 2791) dL_law_2784 (by decide) h (fun h => ?_) (fun h => ?_)
    · refine p_iconst dL_law_2791 ?_
      refine p_aload_n dL_law_2792 rfl ?_
      refine p_iload dL_law_2793 rfl ?_
      refine p_iconst dL_law_2795 ?_
      refine p_iadd dL_law_2796 ?_
      refine q_sld hL dL_law_2797 h (fun h => ?_)
      refine p_aload_n dL_law_2798 rfl ?_
      refine p_iload dL_law_2799 rfl ?_
      refine p_iconst dL_law_2801 ?_
      refine p_iadd dL_law_2802 ?_
      refine q_sld hL dL_law_2803 h (fun h => ?_)
      refine cV_Iw [vI 0, vI (xsG g (Int.toNat (s.1 + 2))), vI (xsG g (Int.toNat (s.1 + 3)))] [] dL_law_2804 yv_X11_line_ ml_L_266 (r := (RX11, TX11, 41)) rfl rfl (Nat.le_of_ble_eq_true rfl) rfl (Nat.le_of_ble_eq_true rfl) (cuL (x := 1) hI (by decide)) (suL (x := 6) hI (by decide)) rfl h (fun K h => s_X11_line_ hG h) (fun r2804 D2804 h => ?_)
      refine p_istore dL_law_2807 (Nat.le_of_ble_eq_true rfl) rfl ?_
      refine p_aload_n dL_law_2809 rfl ?_
      refine cV_Ir [] [] dL_law_2810 yv_X11_thrown ml_L_152 (r := (RX11, TX11, 41)) rfl rfl (Nat.le_of_ble_eq_true rfl) rfl (Nat.le_of_ble_eq_true rfl) (cuL (x := 1) hI (by decide)) (suL (x := 6) hI (by decide)) rfl h (fun K h => s_X11_thrown hG h) (fun r2810 h => ?_)
      refine p_iload dL_law_2813 rfl ?_
      refine q_icmp_eq (tgt := 2820) dL_law_2815 (by decide) h (fun h => ?_) (fun h => ?_)
      · refine p_iload dL_law_2820 rfl ?_
        refine q_if_ne (tgt := 2837) dL_law_2822 (by decide) h (fun h => ?_) (fun h => ?_)
        · refine p_goto (tgt := 3076) dL_law_2837 (by decide) ?_
          refine p_iinc dL_law_3076 rfl (Nat.le_of_ble_eq_true rfl) rfl ?_
          refine p_goto (tgt := 23) dL_law_3079 (by decide) ?_
          exact p_widen (cuN (x := 1) hI (by decide)) (suN (x := 6) hI (by decide)) (p_weak (leL.same (leL.same (leL.same (leL.same (leL.same (leL.drop (leL.drop leL.nil))))))) (kl_inl (P := P_L l g) h _))
        · refine p_aload_n dL_law_2825 rfl ?_
          refine p_iconst dL_law_2826 ?_
          refine q_lald dL_law_2827 rfl rfl h (fun h => ?_)
          refine p_iload dL_law_2828 rfl ?_
          refine q_i2l dL_law_2830 h (fun h => ?_)
          refine q_lcmp_eq (tgt := 2837) dL_law_2831 dL_law_2832 (by decide) h (fun h => ?_) (fun h => ?_)
          · refine p_goto (tgt := 3076) dL_law_2837 (by decide) ?_
            refine p_iinc dL_law_3076 rfl (Nat.le_of_ble_eq_true rfl) rfl ?_
            refine p_goto (tgt := 23) dL_law_3079 (by decide) ?_
            exact p_widen (cuN (x := 1) hI (by decide)) (suN (x := 6) hI (by decide)) (p_weak (leL.same (leL.same (leL.same (leL.same (leL.same (leL.drop (leL.drop leL.nil))))))) (kl_inl (P := P_L l g) h _))
          · refine p_iconst dL_law_2835 ?_
            have h := kl_inr h
            exact p_lawret dL_law_2836 (cuL (x := 1) hI (by decide)) (suL (x := 6) hI (by decide)) (ok_some (K := K1) h)
      · refine p_iconst dL_law_2818 ?_
        have h := kl_inr h
        exact p_lawret dL_law_2819 (cuL (x := 1) hI (by decide)) (suL (x := 6) hI (by decide)) (ok_some (K := K1) h)
    · refine p_iconst dL_law_2787 ?_
      refine p_goto (tgt := 2792) dL_law_2788 (by decide) ?_
      refine p_aload_n dL_law_2792 rfl ?_
      refine p_iload dL_law_2793 rfl ?_
      refine p_iconst dL_law_2795 ?_
      refine p_iadd dL_law_2796 ?_
      refine q_sld hL dL_law_2797 h (fun h => ?_)
      refine p_aload_n dL_law_2798 rfl ?_
      refine p_iload dL_law_2799 rfl ?_
      refine p_iconst dL_law_2801 ?_
      refine p_iadd dL_law_2802 ?_
      refine q_sld hL dL_law_2803 h (fun h => ?_)
      refine cV_Iw [vI 1, vI (xsG g (Int.toNat (s.1 + 2))), vI (xsG g (Int.toNat (s.1 + 3)))] [] dL_law_2804 yv_X11_line_ ml_L_266 (r := (RX11, TX11, 41)) rfl rfl (Nat.le_of_ble_eq_true rfl) rfl (Nat.le_of_ble_eq_true rfl) (cuL (x := 1) hI (by decide)) (suL (x := 6) hI (by decide)) rfl h (fun K h => s_X11_line_ hG h) (fun r2804 D2804 h => ?_)
      refine p_istore dL_law_2807 (Nat.le_of_ble_eq_true rfl) rfl ?_
      refine p_aload_n dL_law_2809 rfl ?_
      refine cV_Ir [] [] dL_law_2810 yv_X11_thrown ml_L_152 (r := (RX11, TX11, 41)) rfl rfl (Nat.le_of_ble_eq_true rfl) rfl (Nat.le_of_ble_eq_true rfl) (cuL (x := 1) hI (by decide)) (suL (x := 6) hI (by decide)) rfl h (fun K h => s_X11_thrown hG h) (fun r2810 h => ?_)
      refine p_iload dL_law_2813 rfl ?_
      refine q_icmp_eq (tgt := 2820) dL_law_2815 (by decide) h (fun h => ?_) (fun h => ?_)
      · refine p_iload dL_law_2820 rfl ?_
        refine q_if_ne (tgt := 2837) dL_law_2822 (by decide) h (fun h => ?_) (fun h => ?_)
        · refine p_goto (tgt := 3076) dL_law_2837 (by decide) ?_
          refine p_iinc dL_law_3076 rfl (Nat.le_of_ble_eq_true rfl) rfl ?_
          refine p_goto (tgt := 23) dL_law_3079 (by decide) ?_
          exact p_widen (cuN (x := 1) hI (by decide)) (suN (x := 6) hI (by decide)) (p_weak (leL.same (leL.same (leL.same (leL.same (leL.same (leL.drop (leL.drop leL.nil))))))) (kl_inl (P := P_L l g) h _))
        · refine p_aload_n dL_law_2825 rfl ?_
          refine p_iconst dL_law_2826 ?_
          refine q_lald dL_law_2827 rfl rfl h (fun h => ?_)
          refine p_iload dL_law_2828 rfl ?_
          refine q_i2l dL_law_2830 h (fun h => ?_)
          refine q_lcmp_eq (tgt := 2837) dL_law_2831 dL_law_2832 (by decide) h (fun h => ?_) (fun h => ?_)
          · refine p_goto (tgt := 3076) dL_law_2837 (by decide) ?_
            refine p_iinc dL_law_3076 rfl (Nat.le_of_ble_eq_true rfl) rfl ?_
            refine p_goto (tgt := 23) dL_law_3079 (by decide) ?_
            exact p_widen (cuN (x := 1) hI (by decide)) (suN (x := 6) hI (by decide)) (p_weak (leL.same (leL.same (leL.same (leL.same (leL.same (leL.drop (leL.drop leL.nil))))))) (kl_inl (P := P_L l g) h _))
          · refine p_iconst dL_law_2835 ?_
            have h := kl_inr h
            exact p_lawret dL_law_2836 (cuL (x := 1) hI (by decide)) (suL (x := 6) hI (by decide)) (ok_some (K := K1) h)
      · refine p_iconst dL_law_2818 ?_
        have h := kl_inr h
        exact p_lawret dL_law_2819 (cuL (x := 1) hI (by decide)) (suL (x := 6) hI (by decide)) (ok_some (K := K1) h)
set_option maxRecDepth 100000 in
set_option maxHeartbeats 4000000 in
theorem x_L_c37 {l : Launch} {g : GH} (hG : G0 l g) (hL : g.2.2.2.2.2.1 ≤ 3584) {n : Nat} {s : Int × DT} (hI : 0 ≤ s.1 ∧ s.1 ≤ 3584) (h : ok (m_L_c37 (xsG g) g.2.2.2.2.2.1 s) (KL (P_L l g) K1)) : Px (E_L l g) 2840 [some (.ref g.2.2.2.2.1), some (vR g 0), some (vR g 73), some (vR g 102), some (vI s.1), none, none] [] (LF n) s.2 (cuF s.1 + 0) (suF s.1 + 0) := by
  refine p_aload_n dL_law_2840 rfl ?_
  refine p_aload_n dL_law_2841 rfl ?_
  refine p_iload dL_law_2842 rfl ?_
  refine p_iconst dL_law_2844 ?_
  refine p_iadd dL_law_2845 ?_
  refine q_sld hL dL_law_2846 h (fun h => ?_)
  refine p_aload_n dL_law_2847 rfl ?_
  refine p_iload dL_law_2848 rfl ?_
  refine p_iconst dL_law_2850 ?_
  refine p_iadd dL_law_2851 ?_
  refine q_sld hL dL_law_2852 h (fun h => ?_)
  refine p_aload_n dL_law_2853 rfl ?_
  refine p_iload dL_law_2854 rfl ?_
  refine p_iconst dL_law_2856 ?_
  refine p_iadd dL_law_2857 ?_
  refine q_sld hL dL_law_2858 h (fun h => ?_)
  refine p_aload_n dL_law_2859 rfl ?_
  refine cW_Ie [vR g 0, vI (xsG g (Int.toNat (s.1 + 1))), vI (xsG g (Int.toNat (s.1 + 2))), vI (xsG g (Int.toNat (s.1 + 3))), vR g 102] [] dL_law_2860 yw_L_joined ml_L_267 (Nat.le_of_ble_eq_true rfl) rfl (Nat.le_of_ble_eq_true rfl) (cuL2 (x := 0) (y := 4) hI (by decide)) (suL2 (x := 0) (y := 24) hI (by decide)) h (fun K h => s_L_joined hG h) (fun n r2860 D2860 h => ?_)
  refine p_istore dL_law_2863 (Nat.le_of_ble_eq_true rfl) rfl ?_
  refine p_aload_n dL_law_2865 rfl ?_
  refine p_aload_n dL_law_2866 rfl ?_
  refine p_iload dL_law_2867 rfl ?_
  refine p_iconst dL_law_2869 ?_
  refine p_iadd dL_law_2870 ?_
  refine q_sld hL dL_law_2871 h (fun h => ?_)
  refine p_aload_n dL_law_2872 rfl ?_
  refine p_iload dL_law_2873 rfl ?_
  refine p_iconst dL_law_2875 ?_
  refine p_iadd dL_law_2876 ?_
  refine q_sld hL dL_law_2877 h (fun h => ?_)
  refine p_aload_n dL_law_2878 rfl ?_
  refine p_iload dL_law_2879 rfl ?_
  refine p_iconst dL_law_2881 ?_
  refine p_iadd dL_law_2882 ?_
  refine q_sld hL dL_law_2883 h (fun h => ?_)
  refine cV_Iw [vI (xsG g (Int.toNat (s.1 + 1))), vI (xsG g (Int.toNat (s.1 + 2))), vI (xsG g (Int.toNat (s.1 + 3)))] [] dL_law_2884 yv_X11_joined ml_L_269 (r := (RX11, TX11, 41)) rfl rfl (Nat.le_of_ble_eq_true rfl) rfl (Nat.le_of_ble_eq_true rfl) (cuL (x := 4) hI (by decide)) (suL (x := 24) hI (by decide)) rfl h (fun K h => s_X11_joined hG h) (fun r2884 D2884 h => ?_)
  refine p_istore dL_law_2887 (Nat.le_of_ble_eq_true rfl) rfl ?_
  refine p_aload_n dL_law_2889 rfl ?_
  refine cV_Ir [] [] dL_law_2890 yv_X11_thrown ml_L_152 (r := (RX11, TX11, 41)) rfl rfl (Nat.le_of_ble_eq_true rfl) rfl (Nat.le_of_ble_eq_true rfl) (cuL (x := 4) hI (by decide)) (suL (x := 24) hI (by decide)) rfl h (fun K h => s_X11_thrown hG h) (fun r2890 h => ?_)
  refine p_iload dL_law_2893 rfl ?_
  refine q_icmp_eq (tgt := 2900) dL_law_2895 (by decide) h (fun h => ?_) (fun h => ?_)
  · refine p_iload dL_law_2900 rfl ?_
    refine q_if_ne (tgt := 2917) dL_law_2902 (by decide) h (fun h => ?_) (fun h => ?_)
    · refine p_goto (tgt := 3076) dL_law_2917 (by decide) ?_
      refine p_iinc dL_law_3076 rfl (Nat.le_of_ble_eq_true rfl) rfl ?_
      refine p_goto (tgt := 23) dL_law_3079 (by decide) ?_
      exact p_widen (cuN (x := 4) hI (by decide)) (suN (x := 24) hI (by decide)) (p_weak (leL.same (leL.same (leL.same (leL.same (leL.same (leL.drop (leL.drop leL.nil))))))) (kl_inl (P := P_L l g) h _))
    · refine p_aload_n dL_law_2905 rfl ?_
      refine p_iconst dL_law_2906 ?_
      refine q_lald dL_law_2907 rfl rfl h (fun h => ?_)
      refine p_iload dL_law_2908 rfl ?_
      refine q_i2l dL_law_2910 h (fun h => ?_)
      refine q_lcmp_eq (tgt := 2917) dL_law_2911 dL_law_2912 (by decide) h (fun h => ?_) (fun h => ?_)
      · refine p_goto (tgt := 3076) dL_law_2917 (by decide) ?_
        refine p_iinc dL_law_3076 rfl (Nat.le_of_ble_eq_true rfl) rfl ?_
        refine p_goto (tgt := 23) dL_law_3079 (by decide) ?_
        exact p_widen (cuN (x := 4) hI (by decide)) (suN (x := 24) hI (by decide)) (p_weak (leL.same (leL.same (leL.same (leL.same (leL.same (leL.drop (leL.drop leL.nil))))))) (kl_inl (P := P_L l g) h _))
      · refine p_iconst dL_law_2915 ?_
        have h := kl_inr h
        exact p_lawret dL_law_2916 (cuL (x := 4) hI (by decide)) (suL (x := 24) hI (by decide)) (ok_some (K := K1) h)
  · refine p_iconst dL_law_2898 ?_
    have h := kl_inr h
    exact p_lawret dL_law_2899 (cuL (x := 4) hI (by decide)) (suL (x := 24) hI (by decide)) (ok_some (K := K1) h)
set_option maxRecDepth 100000 in
set_option maxHeartbeats 4000000 in
theorem x_L_c38 {l : Launch} {g : GH} (hG : G0 l g) (hL : g.2.2.2.2.2.1 ≤ 3584) {n : Nat} {s : Int × DT} (hI : 0 ≤ s.1 ∧ s.1 ≤ 3584) (h : ok (m_L_c38 (xsG g) g.2.2.2.2.2.1 s) (KL (P_L l g) K1)) : Px (E_L l g) 2920 [some (.ref g.2.2.2.2.1), some (vR g 0), some (vR g 73), some (vR g 102), some (vI s.1), none, none] [] (LF n) s.2 (cuF s.1 + 0) (suF s.1 + 0) := by
  refine p_aload_n dL_law_2920 rfl ?_
  refine p_aload_n dL_law_2921 rfl ?_
  refine p_iload dL_law_2922 rfl ?_
  refine p_iconst dL_law_2924 ?_
  refine p_iadd dL_law_2925 ?_
  refine q_sld hL dL_law_2926 h (fun h => ?_)
  refine cV_Iw [vI (xsG g (Int.toNat (s.1 + 1)))] [] dL_law_2927 yv_X10_fits ml_L_270 (r := (RX10, TX10, 7)) rfl rfl (Nat.le_of_ble_eq_true rfl) rfl (Nat.le_of_ble_eq_true rfl) (cuL (x := 0) hI (by decide)) (suL (x := 0) hI (by decide)) rfl h (fun K h => s_X10_fits hG h) (fun r2927 D2927 h => ?_)
  refine p_aload_n dL_law_2930 rfl ?_
  refine p_aload_n dL_law_2931 rfl ?_
  refine p_iload dL_law_2932 rfl ?_
  refine p_iconst dL_law_2934 ?_
  refine p_iadd dL_law_2935 ?_
  refine q_sld hL dL_law_2936 h (fun h => ?_)
  refine cV_Iw [vI (xsG g (Int.toNat (s.1 + 1)))] [vI r2927] dL_law_2937 yv_X11_fits ml_L_273 (r := (RX11, TX11, 41)) rfl rfl (Nat.le_of_ble_eq_true rfl) rfl (Nat.le_of_ble_eq_true rfl) (cuL (x := 0) hI (by decide)) (suL (x := 0) hI (by decide)) rfl h (fun K h => s_X11_fits hG h) (fun r2937 D2937 h => ?_)
  refine q_icmp_eq (tgt := 3076) dL_law_2940 (by decide) h (fun h => ?_) (fun h => ?_)
  · refine p_iinc dL_law_3076 rfl (Nat.le_of_ble_eq_true rfl) rfl ?_
    refine p_goto (tgt := 23) dL_law_3079 (by decide) ?_
    exact p_widen (cuN (x := 0) hI (by decide)) (suN (x := 0) hI (by decide)) (p_weak (leL.same (leL.same (leL.same (leL.same (leL.same (leL.drop (leL.drop leL.nil))))))) (kl_inl (P := P_L l g) h _))
  · refine p_iconst dL_law_2943 ?_
    have h := kl_inr h
    exact p_lawret dL_law_2944 (cuL (x := 0) hI (by decide)) (suL (x := 0) hI (by decide)) (ok_some (K := K1) h)
set_option maxRecDepth 100000 in
set_option maxHeartbeats 4000000 in
theorem x_L_c39 {l : Launch} {g : GH} (hG : G0 l g) (hL : g.2.2.2.2.2.1 ≤ 3584) {n : Nat} {s : Int × DT} (hI : 0 ≤ s.1 ∧ s.1 ≤ 3584) (h : ok (m_L_c39 (xsG g) g.2.2.2.2.2.1 s) (KL (P_L l g) K1)) : Px (E_L l g) 2945 [some (.ref g.2.2.2.2.1), some (vR g 0), some (vR g 73), some (vR g 102), some (vI s.1), none, none] [] (LF n) s.2 (cuF s.1 + 0) (suF s.1 + 0) := by
  refine p_aload_n dL_law_2945 rfl ?_
  refine p_aload_n dL_law_2946 rfl ?_
  refine p_iload dL_law_2947 rfl ?_
  refine p_iconst dL_law_2949 ?_
  refine p_iadd dL_law_2950 ?_
  refine q_sld hL dL_law_2951 h (fun h => ?_)
  refine cV_Iw [vI (xsG g (Int.toNat (s.1 + 1)))] [] dL_law_2952 yv_X10_scale ml_L_274 (r := (RX10, TX10, 7)) rfl rfl (Nat.le_of_ble_eq_true rfl) rfl (Nat.le_of_ble_eq_true rfl) (cuL (x := 0) hI (by decide)) (suL (x := 0) hI (by decide)) rfl h (fun K h => s_X10_scale hG h) (fun r2952 D2952 h => ?_)
  refine p_aload_n dL_law_2955 rfl ?_
  refine p_aload_n dL_law_2956 rfl ?_
  refine p_iload dL_law_2957 rfl ?_
  refine p_iconst dL_law_2959 ?_
  refine p_iadd dL_law_2960 ?_
  refine q_sld hL dL_law_2961 h (fun h => ?_)
  refine cV_Iw [vI (xsG g (Int.toNat (s.1 + 1)))] [vI r2952] dL_law_2962 yv_X11_scale ml_L_277 (r := (RX11, TX11, 41)) rfl rfl (Nat.le_of_ble_eq_true rfl) rfl (Nat.le_of_ble_eq_true rfl) (cuL (x := 0) hI (by decide)) (suL (x := 0) hI (by decide)) rfl h (fun K h => s_X11_scale hG h) (fun r2962 D2962 h => ?_)
  refine q_icmp_eq (tgt := 3076) dL_law_2965 (by decide) h (fun h => ?_) (fun h => ?_)
  · refine p_iinc dL_law_3076 rfl (Nat.le_of_ble_eq_true rfl) rfl ?_
    refine p_goto (tgt := 23) dL_law_3079 (by decide) ?_
    exact p_widen (cuN (x := 0) hI (by decide)) (suN (x := 0) hI (by decide)) (p_weak (leL.same (leL.same (leL.same (leL.same (leL.same (leL.drop (leL.drop leL.nil))))))) (kl_inl (P := P_L l g) h _))
  · refine p_iconst dL_law_2968 ?_
    have h := kl_inr h
    exact p_lawret dL_law_2969 (cuL (x := 0) hI (by decide)) (suL (x := 0) hI (by decide)) (ok_some (K := K1) h)
set_option maxRecDepth 100000 in
set_option maxHeartbeats 4000000 in
theorem x_L_c40 {l : Launch} {g : GH} (hG : G0 l g) (hL : g.2.2.2.2.2.1 ≤ 3584) {n : Nat} {s : Int × DT} (hI : 0 ≤ s.1 ∧ s.1 ≤ 3584) (h : ok (m_L_c40 (xsG g) g.2.2.2.2.2.1 s) (KL (P_L l g) K1)) : Px (E_L l g) 2970 [some (.ref g.2.2.2.2.1), some (vR g 0), some (vR g 73), some (vR g 102), some (vI s.1), none, none] [] (LF n) s.2 (cuF s.1 + 0) (suF s.1 + 0) := by
  refine p_aload_n dL_law_2970 rfl ?_
  refine p_aload_n dL_law_2971 rfl ?_
  refine p_iload dL_law_2972 rfl ?_
  refine p_iconst dL_law_2974 ?_
  refine p_iadd dL_law_2975 ?_
  refine q_sld hL dL_law_2976 h (fun h => ?_)
  refine p_aload_n dL_law_2977 rfl ?_
  refine cW_Ie [vR g 0, vI (xsG g (Int.toNat (s.1 + 1))), vR g 102] [] dL_law_2978 yw_L_write ml_L_278 (Nat.le_of_ble_eq_true rfl) rfl (Nat.le_of_ble_eq_true rfl) (cuL2 (x := 0) (y := 1) hI (by decide)) (suL2 (x := 0) (y := 6) hI (by decide)) h (fun K h => s_L_write hG h) (fun n r2978 D2978 h => ?_)
  refine p_istore dL_law_2981 (Nat.le_of_ble_eq_true rfl) rfl ?_
  refine p_aload_n dL_law_2983 rfl ?_
  refine p_aload_n dL_law_2984 rfl ?_
  refine p_iload dL_law_2985 rfl ?_
  refine p_iconst dL_law_2987 ?_
  refine p_iadd dL_law_2988 ?_
  refine q_sld hL dL_law_2989 h (fun h => ?_)
  refine cV_Iw [vI (xsG g (Int.toNat (s.1 + 1)))] [] dL_law_2990 yv_X11_write ml_L_280 (r := (RX11, TX11, 41)) rfl rfl (Nat.le_of_ble_eq_true rfl) rfl (Nat.le_of_ble_eq_true rfl) (cuL (x := 1) hI (by decide)) (suL (x := 6) hI (by decide)) rfl h (fun K h => s_X11_write hG h) (fun r2990 D2990 h => ?_)
  refine p_istore dL_law_2993 (Nat.le_of_ble_eq_true rfl) rfl ?_
  refine p_aload_n dL_law_2995 rfl ?_
  refine cV_Ir [] [] dL_law_2996 yv_X11_thrown ml_L_152 (r := (RX11, TX11, 41)) rfl rfl (Nat.le_of_ble_eq_true rfl) rfl (Nat.le_of_ble_eq_true rfl) (cuL (x := 1) hI (by decide)) (suL (x := 6) hI (by decide)) rfl h (fun K h => s_X11_thrown hG h) (fun r2996 h => ?_)
  refine p_iload dL_law_2999 rfl ?_
  refine q_icmp_eq (tgt := 3006) dL_law_3001 (by decide) h (fun h => ?_) (fun h => ?_)
  · refine p_iload dL_law_3006 rfl ?_
    refine q_if_ne (tgt := 3023) dL_law_3008 (by decide) h (fun h => ?_) (fun h => ?_)
    · refine p_goto (tgt := 3076) dL_law_3023 (by decide) ?_
      refine p_iinc dL_law_3076 rfl (Nat.le_of_ble_eq_true rfl) rfl ?_
      refine p_goto (tgt := 23) dL_law_3079 (by decide) ?_
      exact p_widen (cuN (x := 1) hI (by decide)) (suN (x := 6) hI (by decide)) (p_weak (leL.same (leL.same (leL.same (leL.same (leL.same (leL.drop (leL.drop leL.nil))))))) (kl_inl (P := P_L l g) h _))
    · refine p_aload_n dL_law_3011 rfl ?_
      refine p_iconst dL_law_3012 ?_
      refine q_lald dL_law_3013 rfl rfl h (fun h => ?_)
      refine p_iload dL_law_3014 rfl ?_
      refine q_i2l dL_law_3016 h (fun h => ?_)
      refine q_lcmp_eq (tgt := 3023) dL_law_3017 dL_law_3018 (by decide) h (fun h => ?_) (fun h => ?_)
      · refine p_goto (tgt := 3076) dL_law_3023 (by decide) ?_
        refine p_iinc dL_law_3076 rfl (Nat.le_of_ble_eq_true rfl) rfl ?_
        refine p_goto (tgt := 23) dL_law_3079 (by decide) ?_
        exact p_widen (cuN (x := 1) hI (by decide)) (suN (x := 6) hI (by decide)) (p_weak (leL.same (leL.same (leL.same (leL.same (leL.same (leL.drop (leL.drop leL.nil))))))) (kl_inl (P := P_L l g) h _))
      · refine p_iconst dL_law_3021 ?_
        have h := kl_inr h
        exact p_lawret dL_law_3022 (cuL (x := 1) hI (by decide)) (suL (x := 6) hI (by decide)) (ok_some (K := K1) h)
  · refine p_iconst dL_law_3004 ?_
    have h := kl_inr h
    exact p_lawret dL_law_3005 (cuL (x := 1) hI (by decide)) (suL (x := 6) hI (by decide)) (ok_some (K := K1) h)
set_option maxRecDepth 100000 in
set_option maxHeartbeats 4000000 in
theorem x_L_c41 {l : Launch} {g : GH} (hG : G0 l g) (hL : g.2.2.2.2.2.1 ≤ 3584) {n : Nat} {s : Int × DT} (hI : 0 ≤ s.1 ∧ s.1 ≤ 3584) (h : ok (m_L_c41 (xsG g) g.2.2.2.2.2.1 s) (KL (P_L l g) K1)) : Px (E_L l g) 3026 [some (.ref g.2.2.2.2.1), some (vR g 0), some (vR g 73), some (vR g 102), some (vI s.1), none, none] [] (LF n) s.2 (cuF s.1 + 0) (suF s.1 + 0) := by
  refine p_aload_n dL_law_3026 rfl ?_
  refine p_aload_n dL_law_3027 rfl ?_
  refine p_iload dL_law_3028 rfl ?_
  refine p_iconst dL_law_3030 ?_
  refine p_iadd dL_law_3031 ?_
  refine q_sld hL dL_law_3032 h (fun h => ?_)
  refine cV_Ir [vI (xsG g (Int.toNat (s.1 + 1)))] [] dL_law_3033 yv_X10_octet ml_L_281 (r := (RX10, TX10, 7)) rfl rfl (Nat.le_of_ble_eq_true rfl) rfl (Nat.le_of_ble_eq_true rfl) (cuL (x := 0) hI (by decide)) (suL (x := 0) hI (by decide)) rfl h (fun K h => s_X10_octet hG h) (fun r3033 h => ?_)
  refine p_aload_n dL_law_3036 rfl ?_
  refine p_aload_n dL_law_3037 rfl ?_
  refine p_iload dL_law_3038 rfl ?_
  refine p_iconst dL_law_3040 ?_
  refine p_iadd dL_law_3041 ?_
  refine q_sld hL dL_law_3042 h (fun h => ?_)
  refine cV_Iw [vI (xsG g (Int.toNat (s.1 + 1)))] [vI r3033] dL_law_3043 yv_X11_octet ml_L_284 (r := (RX11, TX11, 41)) rfl rfl (Nat.le_of_ble_eq_true rfl) rfl (Nat.le_of_ble_eq_true rfl) (cuL (x := 0) hI (by decide)) (suL (x := 0) hI (by decide)) rfl h (fun K h => s_X11_octet hG h) (fun r3043 D3043 h => ?_)
  refine q_icmp_eq (tgt := 3076) dL_law_3046 (by decide) h (fun h => ?_) (fun h => ?_)
  · refine p_iinc dL_law_3076 rfl (Nat.le_of_ble_eq_true rfl) rfl ?_
    refine p_goto (tgt := 23) dL_law_3079 (by decide) ?_
    exact p_widen (cuN (x := 0) hI (by decide)) (suN (x := 0) hI (by decide)) (p_weak (leL.same (leL.same (leL.same (leL.same (leL.same (leL.drop (leL.drop leL.nil))))))) (kl_inl (P := P_L l g) h _))
  · refine p_iconst dL_law_3049 ?_
    have h := kl_inr h
    exact p_lawret dL_law_3050 (cuL (x := 0) hI (by decide)) (suL (x := 0) hI (by decide)) (ok_some (K := K1) h)
set_option maxRecDepth 100000 in
set_option maxHeartbeats 4000000 in
theorem x_L_c42 {l : Launch} {g : GH} (hG : G0 l g) (hL : g.2.2.2.2.2.1 ≤ 3584) {n : Nat} {s : Int × DT} (hI : 0 ≤ s.1 ∧ s.1 ≤ 3584) (h : ok (m_L_c42 (xsG g) g.2.2.2.2.2.1 s) (KL (P_L l g) K1)) : Px (E_L l g) 3051 [some (.ref g.2.2.2.2.1), some (vR g 0), some (vR g 73), some (vR g 102), some (vI s.1), none, none] [] (LF n) s.2 (cuF s.1 + 0) (suF s.1 + 0) := by
  refine p_aload_n dL_law_3051 rfl ?_
  refine p_aload_n dL_law_3052 rfl ?_
  refine p_iload dL_law_3053 rfl ?_
  refine p_iconst dL_law_3055 ?_
  refine p_iadd dL_law_3056 ?_
  refine q_sld hL dL_law_3057 h (fun h => ?_)
  refine cV_Ir [vI (xsG g (Int.toNat (s.1 + 1)))] [] dL_law_3058 yv_X10_count ml_L_285 (r := (RX10, TX10, 7)) rfl rfl (Nat.le_of_ble_eq_true rfl) rfl (Nat.le_of_ble_eq_true rfl) (cuL (x := 0) hI (by decide)) (suL (x := 0) hI (by decide)) rfl h (fun K h => s_X10_count hG h) (fun r3058 h => ?_)
  refine p_aload_n dL_law_3061 rfl ?_
  refine p_aload_n dL_law_3062 rfl ?_
  refine p_iload dL_law_3063 rfl ?_
  refine p_iconst dL_law_3065 ?_
  refine p_iadd dL_law_3066 ?_
  refine q_sld hL dL_law_3067 h (fun h => ?_)
  refine cV_Iw [vI (xsG g (Int.toNat (s.1 + 1)))] [vI r3058] dL_law_3068 yv_X11_count ml_L_288 (r := (RX11, TX11, 41)) rfl rfl (Nat.le_of_ble_eq_true rfl) rfl (Nat.le_of_ble_eq_true rfl) (cuL (x := 0) hI (by decide)) (suL (x := 0) hI (by decide)) rfl h (fun K h => s_X11_count hG h) (fun r3068 D3068 h => ?_)
  refine q_icmp_eq (tgt := 3076) dL_law_3071 (by decide) h (fun h => ?_) (fun h => ?_)
  · refine p_iinc dL_law_3076 rfl (Nat.le_of_ble_eq_true rfl) rfl ?_
    refine p_goto (tgt := 23) dL_law_3079 (by decide) ?_
    exact p_widen (cuN (x := 0) hI (by decide)) (suN (x := 0) hI (by decide)) (p_weak (leL.same (leL.same (leL.same (leL.same (leL.same (leL.drop (leL.drop leL.nil))))))) (kl_inl (P := P_L l g) h _))
  · refine p_iconst dL_law_3074 ?_
    have h := kl_inr h
    exact p_lawret dL_law_3075 (cuL (x := 0) hI (by decide)) (suL (x := 0) hI (by decide)) (ok_some (K := K1) h)
set_option maxRecDepth 100000 in
set_option maxHeartbeats 4000000 in
theorem x_L_loop {l : Launch} {g : GH} (hG : G0 l g) (hL : g.2.2.2.2.2.1 ≤ 3584) {s : Int × DT} (h : ok (m_L_loop (xsG g) g.2.2.2.2.2.1 s) K1) : P_L l g s := by
  refine ok_loop (P := P_L l g) (fun s h n => ?_) h
  obtain ⟨hI, h⟩ := ok_gd h
  refine p_iload dL_law_23 rfl ?_
  refine p_aload_n dL_law_25 rfl ?_
  refine p_slen dL_law_26 ?_
  refine p_bipush dL_law_27 (by decide) ?_
  refine p_isub dL_law_29 ?_
  refine q_icmp_gt (tgt := 3082) dL_law_30 (by decide) h (fun h => ?_) (fun h => ?_)
  · have h := kl_inr h
    refine p_iconst dL_law_3082 ?_
    exact p_lawret dL_law_3083 (cuL (x := 0) hI (by decide)) (suL (x := 0) hI (by decide)) (ok_some (K := K1) h)
  · refine p_aload_n dL_law_33 rfl ?_
    refine p_iload dL_law_34 rfl ?_
    refine q_sld hL dL_law_36 h (fun h => ?_)
    refine p_bipush dL_law_37 (by decide) ?_
    refine p_iand dL_law_39 ?_
    obtain ⟨hr, h⟩ := ok_gd h
    by_cases hr2 : 0 ≤ (andI (xsG g (Int.toNat s.1)) 63) ∧ (andI (xsG g (Int.toNat s.1)) 63) ≤ 42
    · have h := (ok_ite h).1 hr2
      by_cases e0 : (andI (xsG g (Int.toNat s.1)) 63) = 0
      · have h := (ok_ite h).1 e0
        refine p_tableIn (tgt := 228) dL_law_40 hr (tin1 e0 (by decide)) (tin2 e0 (by decide)) (tin3 e0 rfl) (by decide) ?_
        exact x_L_c0 hG hL hI h
      have h := (ok_ite h).2 e0
      by_cases e1 : (andI (xsG g (Int.toNat s.1)) 63) = 1
      · have h := (ok_ite h).1 e1
        refine p_tableIn (tgt := 301) dL_law_40 hr (tin1 e1 (by decide)) (tin2 e1 (by decide)) (tin3 e1 rfl) (by decide) ?_
        exact x_L_c1 hG hL hI h
      have h := (ok_ite h).2 e1
      by_cases e2 : (andI (xsG g (Int.toNat s.1)) 63) = 2
      · have h := (ok_ite h).1 e2
        refine p_tableIn (tgt := 326) dL_law_40 hr (tin1 e2 (by decide)) (tin2 e2 (by decide)) (tin3 e2 rfl) (by decide) ?_
        exact x_L_c2 hG hL hI h
      have h := (ok_ite h).2 e2
      by_cases e3 : (andI (xsG g (Int.toNat s.1)) 63) = 3
      · have h := (ok_ite h).1 e3
        refine p_tableIn (tgt := 370) dL_law_40 hr (tin1 e3 (by decide)) (tin2 e3 (by decide)) (tin3 e3 rfl) (by decide) ?_
        exact x_L_c3 hG hL hI h
      have h := (ok_ite h).2 e3
      by_cases e4 : (andI (xsG g (Int.toNat s.1)) 63) = 4
      · have h := (ok_ite h).1 e4
        refine p_tableIn (tgt := 383) dL_law_40 hr (tin1 e4 (by decide)) (tin2 e4 (by decide)) (tin3 e4 rfl) (by decide) ?_
        exact x_L_c4 hG hL hI h
      have h := (ok_ite h).2 e4
      by_cases e5 : (andI (xsG g (Int.toNat s.1)) 63) = 5
      · have h := (ok_ite h).1 e5
        refine p_tableIn (tgt := 451) dL_law_40 hr (tin1 e5 (by decide)) (tin2 e5 (by decide)) (tin3 e5 rfl) (by decide) ?_
        exact x_L_c5 hG hL hI h
      have h := (ok_ite h).2 e5
      by_cases e6 : (andI (xsG g (Int.toNat s.1)) 63) = 6
      · have h := (ok_ite h).1 e6
        refine p_tableIn (tgt := 519) dL_law_40 hr (tin1 e6 (by decide)) (tin2 e6 (by decide)) (tin3 e6 rfl) (by decide) ?_
        exact x_L_c6 hG hL hI h
      have h := (ok_ite h).2 e6
      by_cases e7 : (andI (xsG g (Int.toNat s.1)) 63) = 7
      · have h := (ok_ite h).1 e7
        refine p_tableIn (tgt := 587) dL_law_40 hr (tin1 e7 (by decide)) (tin2 e7 (by decide)) (tin3 e7 rfl) (by decide) ?_
        exact x_L_c7 hG hL hI h
      have h := (ok_ite h).2 e7
      by_cases e8 : (andI (xsG g (Int.toNat s.1)) 63) = 8
      · have h := (ok_ite h).1 e8
        refine p_tableIn (tgt := 667) dL_law_40 hr (tin1 e8 (by decide)) (tin2 e8 (by decide)) (tin3 e8 rfl) (by decide) ?_
        exact x_L_c8 hG hL hI h
      have h := (ok_ite h).2 e8
      by_cases e9 : (andI (xsG g (Int.toNat s.1)) 63) = 9
      · have h := (ok_ite h).1 e9
        refine p_tableIn (tgt := 735) dL_law_40 hr (tin1 e9 (by decide)) (tin2 e9 (by decide)) (tin3 e9 rfl) (by decide) ?_
        exact x_L_c9 hG hL hI h
      have h := (ok_ite h).2 e9
      by_cases e10 : (andI (xsG g (Int.toNat s.1)) 63) = 10
      · have h := (ok_ite h).1 e10
        refine p_tableIn (tgt := 826) dL_law_40 hr (tin1 e10 (by decide)) (tin2 e10 (by decide)) (tin3 e10 rfl) (by decide) ?_
        exact x_L_c10 hG hL hI h
      have h := (ok_ite h).2 e10
      by_cases e11 : (andI (xsG g (Int.toNat s.1)) 63) = 11
      · have h := (ok_ite h).1 e11
        refine p_tableIn (tgt := 882) dL_law_40 hr (tin1 e11 (by decide)) (tin2 e11 (by decide)) (tin3 e11 rfl) (by decide) ?_
        exact x_L_c11 hG hL hI h
      have h := (ok_ite h).2 e11
      by_cases e12 : (andI (xsG g (Int.toNat s.1)) 63) = 12
      · have h := (ok_ite h).1 e12
        refine p_tableIn (tgt := 938) dL_law_40 hr (tin1 e12 (by decide)) (tin2 e12 (by decide)) (tin3 e12 rfl) (by decide) ?_
        exact x_L_c12 hG hL hI h
      have h := (ok_ite h).2 e12
      by_cases e13 : (andI (xsG g (Int.toNat s.1)) 63) = 13
      · have h := (ok_ite h).1 e13
        refine p_tableIn (tgt := 1006) dL_law_40 hr (tin1 e13 (by decide)) (tin2 e13 (by decide)) (tin3 e13 rfl) (by decide) ?_
        exact x_L_c13 hG hL hI h
      have h := (ok_ite h).2 e13
      by_cases e14 : (andI (xsG g (Int.toNat s.1)) 63) = 14
      · have h := (ok_ite h).1 e14
        refine p_tableIn (tgt := 1062) dL_law_40 hr (tin1 e14 (by decide)) (tin2 e14 (by decide)) (tin3 e14 rfl) (by decide) ?_
        exact x_L_c14 hG hL hI h
      have h := (ok_ite h).2 e14
      by_cases e15 : (andI (xsG g (Int.toNat s.1)) 63) = 15
      · have h := (ok_ite h).1 e15
        refine p_tableIn (tgt := 1142) dL_law_40 hr (tin1 e15 (by decide)) (tin2 e15 (by decide)) (tin3 e15 rfl) (by decide) ?_
        exact x_L_c15 hG hL hI h
      have h := (ok_ite h).2 e15
      by_cases e16 : (andI (xsG g (Int.toNat s.1)) 63) = 16
      · have h := (ok_ite h).1 e16
        refine p_tableIn (tgt := 1222) dL_law_40 hr (tin1 e16 (by decide)) (tin2 e16 (by decide)) (tin3 e16 rfl) (by decide) ?_
        exact x_L_c16 hG hL hI h
      have h := (ok_ite h).2 e16
      by_cases e17 : (andI (xsG g (Int.toNat s.1)) 63) = 17
      · have h := (ok_ite h).1 e17
        refine p_tableIn (tgt := 1290) dL_law_40 hr (tin1 e17 (by decide)) (tin2 e17 (by decide)) (tin3 e17 rfl) (by decide) ?_
        exact x_L_c17 hG hL hI h
      have h := (ok_ite h).2 e17
      by_cases e18 : (andI (xsG g (Int.toNat s.1)) 63) = 18
      · have h := (ok_ite h).1 e18
        refine p_tableIn (tgt := 1358) dL_law_40 hr (tin1 e18 (by decide)) (tin2 e18 (by decide)) (tin3 e18 rfl) (by decide) ?_
        exact x_L_c18 hG hL hI h
      have h := (ok_ite h).2 e18
      by_cases e19 : (andI (xsG g (Int.toNat s.1)) 63) = 19
      · have h := (ok_ite h).1 e19
        refine p_tableIn (tgt := 1450) dL_law_40 hr (tin1 e19 (by decide)) (tin2 e19 (by decide)) (tin3 e19 rfl) (by decide) ?_
        exact x_L_c19 hG hL hI h
      have h := (ok_ite h).2 e19
      by_cases e20 : (andI (xsG g (Int.toNat s.1)) 63) = 20
      · have h := (ok_ite h).1 e20
        refine p_tableIn (tgt := 1530) dL_law_40 hr (tin1 e20 (by decide)) (tin2 e20 (by decide)) (tin3 e20 rfl) (by decide) ?_
        exact x_L_c20 hG hL hI h
      have h := (ok_ite h).2 e20
      by_cases e21 : (andI (xsG g (Int.toNat s.1)) 63) = 21
      · have h := (ok_ite h).1 e21
        refine p_tableIn (tgt := 1586) dL_law_40 hr (tin1 e21 (by decide)) (tin2 e21 (by decide)) (tin3 e21 rfl) (by decide) ?_
        exact x_L_c21 hG hL hI h
      have h := (ok_ite h).2 e21
      by_cases e22 : (andI (xsG g (Int.toNat s.1)) 63) = 22
      · have h := (ok_ite h).1 e22
        refine p_tableIn (tgt := 1654) dL_law_40 hr (tin1 e22 (by decide)) (tin2 e22 (by decide)) (tin3 e22 rfl) (by decide) ?_
        exact x_L_c22 hG hL hI h
      have h := (ok_ite h).2 e22
      by_cases e23 : (andI (xsG g (Int.toNat s.1)) 63) = 23
      · have h := (ok_ite h).1 e23
        refine p_tableIn (tgt := 1758) dL_law_40 hr (tin1 e23 (by decide)) (tin2 e23 (by decide)) (tin3 e23 rfl) (by decide) ?_
        exact x_L_c23 hG hL hI h
      have h := (ok_ite h).2 e23
      by_cases e24 : (andI (xsG g (Int.toNat s.1)) 63) = 24
      · have h := (ok_ite h).1 e24
        refine p_tableIn (tgt := 1876) dL_law_40 hr (tin1 e24 (by decide)) (tin2 e24 (by decide)) (tin3 e24 rfl) (by decide) ?_
        exact x_L_c24 hG hL hI h
      have h := (ok_ite h).2 e24
      by_cases e25 : (andI (xsG g (Int.toNat s.1)) 63) = 25
      · have h := (ok_ite h).1 e25
        refine p_tableIn (tgt := 1984) dL_law_40 hr (tin1 e25 (by decide)) (tin2 e25 (by decide)) (tin3 e25 rfl) (by decide) ?_
        exact x_L_c25 hG hL hI h
      have h := (ok_ite h).2 e25
      by_cases e26 : (andI (xsG g (Int.toNat s.1)) 63) = 26
      · have h := (ok_ite h).1 e26
        refine p_tableIn (tgt := 2040) dL_law_40 hr (tin1 e26 (by decide)) (tin2 e26 (by decide)) (tin3 e26 rfl) (by decide) ?_
        exact x_L_c26 hG hL hI h
      have h := (ok_ite h).2 e26
      by_cases e27 : (andI (xsG g (Int.toNat s.1)) 63) = 27
      · have h := (ok_ite h).1 e27
        refine p_tableIn (tgt := 2132) dL_law_40 hr (tin1 e27 (by decide)) (tin2 e27 (by decide)) (tin3 e27 rfl) (by decide) ?_
        exact x_L_c27 hG hL hI h
      have h := (ok_ite h).2 e27
      by_cases e28 : (andI (xsG g (Int.toNat s.1)) 63) = 28
      · have h := (ok_ite h).1 e28
        refine p_tableIn (tgt := 2212) dL_law_40 hr (tin1 e28 (by decide)) (tin2 e28 (by decide)) (tin3 e28 rfl) (by decide) ?_
        exact x_L_c28 hG hL hI h
      have h := (ok_ite h).2 e28
      by_cases e29 : (andI (xsG g (Int.toNat s.1)) 63) = 29
      · have h := (ok_ite h).1 e29
        refine p_tableIn (tgt := 2280) dL_law_40 hr (tin1 e29 (by decide)) (tin2 e29 (by decide)) (tin3 e29 rfl) (by decide) ?_
        exact x_L_c29 hG hL hI h
      have h := (ok_ite h).2 e29
      by_cases e30 : (andI (xsG g (Int.toNat s.1)) 63) = 30
      · have h := (ok_ite h).1 e30
        refine p_tableIn (tgt := 2348) dL_law_40 hr (tin1 e30 (by decide)) (tin2 e30 (by decide)) (tin3 e30 rfl) (by decide) ?_
        exact x_L_c30 hG hL hI h
      have h := (ok_ite h).2 e30
      by_cases e31 : (andI (xsG g (Int.toNat s.1)) 63) = 31
      · have h := (ok_ite h).1 e31
        refine p_tableIn (tgt := 2428) dL_law_40 hr (tin1 e31 (by decide)) (tin2 e31 (by decide)) (tin3 e31 rfl) (by decide) ?_
        exact x_L_c31 hG hL hI h
      have h := (ok_ite h).2 e31
      by_cases e32 : (andI (xsG g (Int.toNat s.1)) 63) = 32
      · have h := (ok_ite h).1 e32
        refine p_tableIn (tgt := 2496) dL_law_40 hr (tin1 e32 (by decide)) (tin2 e32 (by decide)) (tin3 e32 rfl) (by decide) ?_
        exact x_L_c32 hG hL hI h
      have h := (ok_ite h).2 e32
      by_cases e33 : (andI (xsG g (Int.toNat s.1)) 63) = 33
      · have h := (ok_ite h).1 e33
        refine p_tableIn (tgt := 2552) dL_law_40 hr (tin1 e33 (by decide)) (tin2 e33 (by decide)) (tin3 e33 rfl) (by decide) ?_
        exact x_L_c33 hG hL hI h
      have h := (ok_ite h).2 e33
      by_cases e34 : (andI (xsG g (Int.toNat s.1)) 63) = 34
      · have h := (ok_ite h).1 e34
        refine p_tableIn (tgt := 2620) dL_law_40 hr (tin1 e34 (by decide)) (tin2 e34 (by decide)) (tin3 e34 rfl) (by decide) ?_
        exact x_L_c34 hG hL hI h
      have h := (ok_ite h).2 e34
      by_cases e35 : (andI (xsG g (Int.toNat s.1)) 63) = 35
      · have h := (ok_ite h).1 e35
        refine p_tableIn (tgt := 2676) dL_law_40 hr (tin1 e35 (by decide)) (tin2 e35 (by decide)) (tin3 e35 rfl) (by decide) ?_
        exact x_L_c35 hG hL hI h
      have h := (ok_ite h).2 e35
      by_cases e36 : (andI (xsG g (Int.toNat s.1)) 63) = 36
      · have h := (ok_ite h).1 e36
        refine p_tableIn (tgt := 2744) dL_law_40 hr (tin1 e36 (by decide)) (tin2 e36 (by decide)) (tin3 e36 rfl) (by decide) ?_
        exact x_L_c36 hG hL hI h
      have h := (ok_ite h).2 e36
      by_cases e37 : (andI (xsG g (Int.toNat s.1)) 63) = 37
      · have h := (ok_ite h).1 e37
        refine p_tableIn (tgt := 2840) dL_law_40 hr (tin1 e37 (by decide)) (tin2 e37 (by decide)) (tin3 e37 rfl) (by decide) ?_
        exact x_L_c37 hG hL hI h
      have h := (ok_ite h).2 e37
      by_cases e38 : (andI (xsG g (Int.toNat s.1)) 63) = 38
      · have h := (ok_ite h).1 e38
        refine p_tableIn (tgt := 2920) dL_law_40 hr (tin1 e38 (by decide)) (tin2 e38 (by decide)) (tin3 e38 rfl) (by decide) ?_
        exact x_L_c38 hG hL hI h
      have h := (ok_ite h).2 e38
      by_cases e39 : (andI (xsG g (Int.toNat s.1)) 63) = 39
      · have h := (ok_ite h).1 e39
        refine p_tableIn (tgt := 2945) dL_law_40 hr (tin1 e39 (by decide)) (tin2 e39 (by decide)) (tin3 e39 rfl) (by decide) ?_
        exact x_L_c39 hG hL hI h
      have h := (ok_ite h).2 e39
      by_cases e40 : (andI (xsG g (Int.toNat s.1)) 63) = 40
      · have h := (ok_ite h).1 e40
        refine p_tableIn (tgt := 2970) dL_law_40 hr (tin1 e40 (by decide)) (tin2 e40 (by decide)) (tin3 e40 rfl) (by decide) ?_
        exact x_L_c40 hG hL hI h
      have h := (ok_ite h).2 e40
      by_cases e41 : (andI (xsG g (Int.toNat s.1)) 63) = 41
      · have h := (ok_ite h).1 e41
        refine p_tableIn (tgt := 3026) dL_law_40 hr (tin1 e41 (by decide)) (tin2 e41 (by decide)) (tin3 e41 rfl) (by decide) ?_
        exact x_L_c41 hG hL hI h
      have h := (ok_ite h).2 e41
      by_cases e42 : (andI (xsG g (Int.toNat s.1)) 63) = 42
      · have h := (ok_ite h).1 e42
        refine p_tableIn (tgt := 3051) dL_law_40 hr (tin1 e42 (by decide)) (tin2 e42 (by decide)) (tin3 e42 rfl) (by decide) ?_
        exact x_L_c42 hG hL hI h
      have h := (ok_ite h).2 e42
      obtain ⟨_, e9, _⟩ := h
      cases e9
    have h := (ok_ite h).2 hr2
    refine p_tableOut (tgt := 3076) dL_law_40 hr (tout hr2) (by decide) ?_
    refine p_iinc dL_law_3076 rfl (Nat.le_of_ble_eq_true rfl) rfl ?_
    refine p_goto (tgt := 23) dL_law_3079 (by decide) ?_
    exact p_widen (cuN (x := 0) hI (by decide)) (suN (x := 0) hI (by decide)) (p_weak (leL.same (leL.same (leL.same (leL.same (leL.same (leL.drop (leL.drop leL.nil))))))) (kl_inl (P := P_L l g) h _))
