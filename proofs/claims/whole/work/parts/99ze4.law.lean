/-! ===== the law's cases 44.. ===== -/
theorem dL_law_1580 : decode cL_law 1580 = .ok (.aload_n 1, 1) := by decide +kernel
theorem dL_law_1581 : decode cL_law 1581 = .ok (.aload_n 0, 1) := by decide +kernel
theorem dL_law_1582 : decode cL_law 1582 = .ok (.iload_n 3, 1) := by decide +kernel
theorem dL_law_1583 : decode cL_law 1583 = .ok (.iconst 1, 1) := by decide +kernel
theorem dL_law_1584 : decode cL_law 1584 = .ok (.iadd, 1) := by decide +kernel
theorem dL_law_1585 : decode cL_law 1585 = .ok (.iaload, 1) := by decide +kernel
theorem dL_law_1586 : decode cL_law 1586 = .ok (.aload_n 0, 1) := by decide +kernel
theorem dL_law_1587 : decode cL_law 1587 = .ok (.iload_n 3, 1) := by decide +kernel
theorem dL_law_1588 : decode cL_law 1588 = .ok (.iconst 2, 1) := by decide +kernel
theorem dL_law_1589 : decode cL_law 1589 = .ok (.iadd, 1) := by decide +kernel
theorem dL_law_1590 : decode cL_law 1590 = .ok (.iaload, 1) := by decide +kernel
theorem dL_law_1591 : decode cL_law 1591 = .ok (.invokevirtual 195, 3) := by decide +kernel
theorem dL_law_1594 : decode cL_law 1594 = .ok (.aload_n 2, 1) := by decide +kernel
theorem dL_law_1595 : decode cL_law 1595 = .ok (.aload_n 0, 1) := by decide +kernel
theorem dL_law_1596 : decode cL_law 1596 = .ok (.iload_n 3, 1) := by decide +kernel
theorem dL_law_1597 : decode cL_law 1597 = .ok (.iconst 1, 1) := by decide +kernel
theorem dL_law_1598 : decode cL_law 1598 = .ok (.iadd, 1) := by decide +kernel
theorem dL_law_1599 : decode cL_law 1599 = .ok (.iaload, 1) := by decide +kernel
theorem dL_law_1600 : decode cL_law 1600 = .ok (.aload_n 0, 1) := by decide +kernel
theorem dL_law_1601 : decode cL_law 1601 = .ok (.iload_n 3, 1) := by decide +kernel
theorem dL_law_1602 : decode cL_law 1602 = .ok (.iconst 2, 1) := by decide +kernel
theorem dL_law_1603 : decode cL_law 1603 = .ok (.iadd, 1) := by decide +kernel
theorem dL_law_1604 : decode cL_law 1604 = .ok (.iaload, 1) := by decide +kernel
theorem dL_law_1605 : decode cL_law 1605 = .ok (.invokevirtual 198, 3) := by decide +kernel
theorem dL_law_1608 : decode cL_law 1608 = .ok (.if_icmp .eq 325, 3) := by decide +kernel
theorem lawc_44 {X : xCX} {b L : Nat} {xs : Nat → Int32} {i : Int32} {M : xMem} (C : xCk X cL_law RL 16) (hS : xSc X b L xs) (h5 : ∀ j, j < 6 → vp_in (i + nI j) L) (hT : TOP M) (kk : ∀ M', TOP M' → WW X 1933 [some (.ref b), some (vr X.1 0), some (vr X.1 146), some (.int i)] [] M') : WW X 1580 [some (.ref b), some (vr X.1 0), some (vr X.1 146), some (.int i)] [] M := by
  obtain ⟨v, M1, M2, f1, f2, T2⟩ := (show STEP (fX10_pressed 0 (xs (i + nI 1).toNatClampNeg) (xs (i + nI 2).toNatClampNeg)) (fX11_pressed 146 (xs (i + nI 1).toNatClampNeg) (xs (i + nI 2).toNatClampNeg)) from s_pressed) M hT
  refine r_aload_n (pc := 1580) C dL_law_1580 rfl rfl ?_
  refine r_xld_n (pc := 1581) C dL_law_1581 rfl rfl rfl ?_
  refine r_iload_n (pc := 1582) C dL_law_1582 rfl rfl ?_
  refine r_iconst (pc := 1583) (v := nI 1) C dL_law_1583 (by decide) ?_
  refine r_iadd (pc := 1584) C dL_law_1584 ?_
  refine r_scld (pc := 1585) C hS (h5 1 (by decide)) dL_law_1585 ?_
  refine r_xld_n (pc := 1586) C dL_law_1586 rfl rfl rfl ?_
  refine r_iload_n (pc := 1587) C dL_law_1587 rfl rfl ?_
  refine r_iconst (pc := 1588) (v := nI 2) C dL_law_1588 (by decide) ?_
  refine r_iadd (pc := 1589) C dL_law_1589 ?_
  refine r_scld (pc := 1590) C hS (h5 2 (by decide)) dL_law_1590 ?_
  refine r_vI2 (pc := 1591) (o := fX10_pressed 0 (xs (i + nI 1).toNatClampNeg) (xs (i + nI 2).toNatClampNeg) M) (F := fun r M' => some (r, M')) (z := (v, M1)) C (fun r M' e => zX10_pressed X.1 0 rfl (xs (i + nI 1).toNatClampNeg) (xs (i + nI 2).toNatClampNeg) M r M' e) rfl (by decide) rfl mX10_pressed lL_195 (by decide) (Nat.le_of_ble_eq_true rfl) dL_law_1591 (by rw [f1]; rfl) (fun r M' e => ?_)
  cases e
  refine r_aload_n (pc := 1594) C dL_law_1594 rfl rfl ?_
  refine r_xld_n (pc := 1595) C dL_law_1595 rfl rfl rfl ?_
  refine r_iload_n (pc := 1596) C dL_law_1596 rfl rfl ?_
  refine r_iconst (pc := 1597) (v := nI 1) C dL_law_1597 (by decide) ?_
  refine r_iadd (pc := 1598) C dL_law_1598 ?_
  refine r_scld (pc := 1599) C hS (h5 1 (by decide)) dL_law_1599 ?_
  refine r_xld_n (pc := 1600) C dL_law_1600 rfl rfl rfl ?_
  refine r_iload_n (pc := 1601) C dL_law_1601 rfl rfl ?_
  refine r_iconst (pc := 1602) (v := nI 2) C dL_law_1602 (by decide) ?_
  refine r_iadd (pc := 1603) C dL_law_1603 ?_
  refine r_scld (pc := 1604) C hS (h5 2 (by decide)) dL_law_1604 ?_
  refine r_vI2 (pc := 1605) (o := fX11_pressed 146 (xs (i + nI 1).toNatClampNeg) (xs (i + nI 2).toNatClampNeg) M1) (F := fun r M' => some (r, M')) (z := (v, M2)) C (fun r M' e => zX11_pressed X.1 146 rfl (xs (i + nI 1).toNatClampNeg) (xs (i + nI 2).toNatClampNeg) M1 r M' e) rfl (by decide) rfl mX11_pressed lL_198 (by decide) (Nat.le_of_ble_eq_true rfl) dL_law_1605 (by rw [f2]; rfl) (fun r M' e => ?_)
  cases e
  exact r_icmp_eq (pc := 1608) (tgt := 1933) (A := some ()) (B := none) (r := ()) C dL_law_1608 (by decide) (if_pos rfl) (fun _ _ => kk M2 T2) (fun _ h => absurd h (by simp))
theorem dL_law_1613 : decode cL_law 1613 = .ok (.aload_n 1, 1) := by decide +kernel
theorem dL_law_1614 : decode cL_law 1614 = .ok (.aload_n 0, 1) := by decide +kernel
theorem dL_law_1615 : decode cL_law 1615 = .ok (.iload_n 3, 1) := by decide +kernel
theorem dL_law_1616 : decode cL_law 1616 = .ok (.iconst 1, 1) := by decide +kernel
theorem dL_law_1617 : decode cL_law 1617 = .ok (.iadd, 1) := by decide +kernel
theorem dL_law_1618 : decode cL_law 1618 = .ok (.iaload, 1) := by decide +kernel
theorem dL_law_1619 : decode cL_law 1619 = .ok (.aload_n 0, 1) := by decide +kernel
theorem dL_law_1620 : decode cL_law 1620 = .ok (.iload_n 3, 1) := by decide +kernel
theorem dL_law_1621 : decode cL_law 1621 = .ok (.iconst 2, 1) := by decide +kernel
theorem dL_law_1622 : decode cL_law 1622 = .ok (.iadd, 1) := by decide +kernel
theorem dL_law_1623 : decode cL_law 1623 = .ok (.iaload, 1) := by decide +kernel
theorem dL_law_1624 : decode cL_law 1624 = .ok (.aload_n 0, 1) := by decide +kernel
theorem dL_law_1625 : decode cL_law 1625 = .ok (.iload_n 3, 1) := by decide +kernel
theorem dL_law_1626 : decode cL_law 1626 = .ok (.iconst 3, 1) := by decide +kernel
theorem dL_law_1627 : decode cL_law 1627 = .ok (.iadd, 1) := by decide +kernel
theorem dL_law_1628 : decode cL_law 1628 = .ok (.iaload, 1) := by decide +kernel
theorem dL_law_1629 : decode cL_law 1629 = .ok (.invokevirtual 199, 3) := by decide +kernel
theorem dL_law_1632 : decode cL_law 1632 = .ok (.aload_n 2, 1) := by decide +kernel
theorem dL_law_1633 : decode cL_law 1633 = .ok (.aload_n 0, 1) := by decide +kernel
theorem dL_law_1634 : decode cL_law 1634 = .ok (.iload_n 3, 1) := by decide +kernel
theorem dL_law_1635 : decode cL_law 1635 = .ok (.iconst 1, 1) := by decide +kernel
theorem dL_law_1636 : decode cL_law 1636 = .ok (.iadd, 1) := by decide +kernel
theorem dL_law_1637 : decode cL_law 1637 = .ok (.iaload, 1) := by decide +kernel
theorem dL_law_1638 : decode cL_law 1638 = .ok (.aload_n 0, 1) := by decide +kernel
theorem dL_law_1639 : decode cL_law 1639 = .ok (.iload_n 3, 1) := by decide +kernel
theorem dL_law_1640 : decode cL_law 1640 = .ok (.iconst 2, 1) := by decide +kernel
theorem dL_law_1641 : decode cL_law 1641 = .ok (.iadd, 1) := by decide +kernel
theorem dL_law_1642 : decode cL_law 1642 = .ok (.iaload, 1) := by decide +kernel
theorem dL_law_1643 : decode cL_law 1643 = .ok (.aload_n 0, 1) := by decide +kernel
theorem dL_law_1644 : decode cL_law 1644 = .ok (.iload_n 3, 1) := by decide +kernel
theorem dL_law_1645 : decode cL_law 1645 = .ok (.iconst 3, 1) := by decide +kernel
theorem dL_law_1646 : decode cL_law 1646 = .ok (.iadd, 1) := by decide +kernel
theorem dL_law_1647 : decode cL_law 1647 = .ok (.iaload, 1) := by decide +kernel
theorem dL_law_1648 : decode cL_law 1648 = .ok (.invokevirtual 202, 3) := by decide +kernel
theorem dL_law_1651 : decode cL_law 1651 = .ok (.if_icmp .eq 282, 3) := by decide +kernel
theorem lawc_45 {X : xCX} {b L : Nat} {xs : Nat → Int32} {i : Int32} {M : xMem} (C : xCk X cL_law RL 16) (hS : xSc X b L xs) (h5 : ∀ j, j < 6 → vp_in (i + nI j) L) (hT : TOP M) (kk : ∀ M', TOP M' → WW X 1933 [some (.ref b), some (vr X.1 0), some (vr X.1 146), some (.int i)] [] M') : WW X 1613 [some (.ref b), some (vr X.1 0), some (vr X.1 146), some (.int i)] [] M := by
  obtain ⟨v, M1, M2, f1, f2, T2⟩ := (show STEP (fX10_gained 0 (xs (i + nI 1).toNatClampNeg) (xs (i + nI 2).toNatClampNeg) (xs (i + nI 3).toNatClampNeg)) (fX11_gained 146 (xs (i + nI 1).toNatClampNeg) (xs (i + nI 2).toNatClampNeg) (xs (i + nI 3).toNatClampNeg)) from s_gained) M hT
  refine r_aload_n (pc := 1613) C dL_law_1613 rfl rfl ?_
  refine r_xld_n (pc := 1614) C dL_law_1614 rfl rfl rfl ?_
  refine r_iload_n (pc := 1615) C dL_law_1615 rfl rfl ?_
  refine r_iconst (pc := 1616) (v := nI 1) C dL_law_1616 (by decide) ?_
  refine r_iadd (pc := 1617) C dL_law_1617 ?_
  refine r_scld (pc := 1618) C hS (h5 1 (by decide)) dL_law_1618 ?_
  refine r_xld_n (pc := 1619) C dL_law_1619 rfl rfl rfl ?_
  refine r_iload_n (pc := 1620) C dL_law_1620 rfl rfl ?_
  refine r_iconst (pc := 1621) (v := nI 2) C dL_law_1621 (by decide) ?_
  refine r_iadd (pc := 1622) C dL_law_1622 ?_
  refine r_scld (pc := 1623) C hS (h5 2 (by decide)) dL_law_1623 ?_
  refine r_xld_n (pc := 1624) C dL_law_1624 rfl rfl rfl ?_
  refine r_iload_n (pc := 1625) C dL_law_1625 rfl rfl ?_
  refine r_iconst (pc := 1626) (v := nI 3) C dL_law_1626 (by decide) ?_
  refine r_iadd (pc := 1627) C dL_law_1627 ?_
  refine r_scld (pc := 1628) C hS (h5 3 (by decide)) dL_law_1628 ?_
  refine r_vI3 (pc := 1629) (o := fX10_gained 0 (xs (i + nI 1).toNatClampNeg) (xs (i + nI 2).toNatClampNeg) (xs (i + nI 3).toNatClampNeg) M) (F := fun r M' => some (r, M')) (z := (v, M1)) C (fun r M' e => zX10_gained X.1 0 rfl (xs (i + nI 1).toNatClampNeg) (xs (i + nI 2).toNatClampNeg) (xs (i + nI 3).toNatClampNeg) M r M' e) rfl (by decide) rfl mX10_gained lL_199 (by decide) (Nat.le_of_ble_eq_true rfl) dL_law_1629 (by rw [f1]; rfl) (fun r M' e => ?_)
  cases e
  refine r_aload_n (pc := 1632) C dL_law_1632 rfl rfl ?_
  refine r_xld_n (pc := 1633) C dL_law_1633 rfl rfl rfl ?_
  refine r_iload_n (pc := 1634) C dL_law_1634 rfl rfl ?_
  refine r_iconst (pc := 1635) (v := nI 1) C dL_law_1635 (by decide) ?_
  refine r_iadd (pc := 1636) C dL_law_1636 ?_
  refine r_scld (pc := 1637) C hS (h5 1 (by decide)) dL_law_1637 ?_
  refine r_xld_n (pc := 1638) C dL_law_1638 rfl rfl rfl ?_
  refine r_iload_n (pc := 1639) C dL_law_1639 rfl rfl ?_
  refine r_iconst (pc := 1640) (v := nI 2) C dL_law_1640 (by decide) ?_
  refine r_iadd (pc := 1641) C dL_law_1641 ?_
  refine r_scld (pc := 1642) C hS (h5 2 (by decide)) dL_law_1642 ?_
  refine r_xld_n (pc := 1643) C dL_law_1643 rfl rfl rfl ?_
  refine r_iload_n (pc := 1644) C dL_law_1644 rfl rfl ?_
  refine r_iconst (pc := 1645) (v := nI 3) C dL_law_1645 (by decide) ?_
  refine r_iadd (pc := 1646) C dL_law_1646 ?_
  refine r_scld (pc := 1647) C hS (h5 3 (by decide)) dL_law_1647 ?_
  refine r_vI3 (pc := 1648) (o := fX11_gained 146 (xs (i + nI 1).toNatClampNeg) (xs (i + nI 2).toNatClampNeg) (xs (i + nI 3).toNatClampNeg) M1) (F := fun r M' => some (r, M')) (z := (v, M2)) C (fun r M' e => zX11_gained X.1 146 rfl (xs (i + nI 1).toNatClampNeg) (xs (i + nI 2).toNatClampNeg) (xs (i + nI 3).toNatClampNeg) M1 r M' e) rfl (by decide) rfl mX11_gained lL_202 (by decide) (Nat.le_of_ble_eq_true rfl) dL_law_1648 (by rw [f2]; rfl) (fun r M' e => ?_)
  cases e
  exact r_icmp_eq (pc := 1651) (tgt := 1933) (A := some ()) (B := none) (r := ()) C dL_law_1651 (by decide) (if_pos rfl) (fun _ _ => kk M2 T2) (fun _ h => absurd h (by simp))
theorem dL_law_1656 : decode cL_law 1656 = .ok (.aload_n 1, 1) := by decide +kernel
theorem dL_law_1657 : decode cL_law 1657 = .ok (.aload_n 0, 1) := by decide +kernel
theorem dL_law_1658 : decode cL_law 1658 = .ok (.iload_n 3, 1) := by decide +kernel
theorem dL_law_1659 : decode cL_law 1659 = .ok (.iconst 1, 1) := by decide +kernel
theorem dL_law_1660 : decode cL_law 1660 = .ok (.iadd, 1) := by decide +kernel
theorem dL_law_1661 : decode cL_law 1661 = .ok (.iaload, 1) := by decide +kernel
theorem dL_law_1662 : decode cL_law 1662 = .ok (.aload_n 0, 1) := by decide +kernel
theorem dL_law_1663 : decode cL_law 1663 = .ok (.iload_n 3, 1) := by decide +kernel
theorem dL_law_1664 : decode cL_law 1664 = .ok (.iconst 2, 1) := by decide +kernel
theorem dL_law_1665 : decode cL_law 1665 = .ok (.iadd, 1) := by decide +kernel
theorem dL_law_1666 : decode cL_law 1666 = .ok (.iaload, 1) := by decide +kernel
theorem dL_law_1667 : decode cL_law 1667 = .ok (.aload_n 0, 1) := by decide +kernel
theorem dL_law_1668 : decode cL_law 1668 = .ok (.iload_n 3, 1) := by decide +kernel
theorem dL_law_1669 : decode cL_law 1669 = .ok (.iconst 3, 1) := by decide +kernel
theorem dL_law_1670 : decode cL_law 1670 = .ok (.iadd, 1) := by decide +kernel
theorem dL_law_1671 : decode cL_law 1671 = .ok (.iaload, 1) := by decide +kernel
theorem dL_law_1672 : decode cL_law 1672 = .ok (.invokevirtual 203, 3) := by decide +kernel
theorem dL_law_1675 : decode cL_law 1675 = .ok (.aload_n 2, 1) := by decide +kernel
theorem dL_law_1676 : decode cL_law 1676 = .ok (.aload_n 0, 1) := by decide +kernel
theorem dL_law_1677 : decode cL_law 1677 = .ok (.iload_n 3, 1) := by decide +kernel
theorem dL_law_1678 : decode cL_law 1678 = .ok (.iconst 1, 1) := by decide +kernel
theorem dL_law_1679 : decode cL_law 1679 = .ok (.iadd, 1) := by decide +kernel
theorem dL_law_1680 : decode cL_law 1680 = .ok (.iaload, 1) := by decide +kernel
theorem dL_law_1681 : decode cL_law 1681 = .ok (.aload_n 0, 1) := by decide +kernel
theorem dL_law_1682 : decode cL_law 1682 = .ok (.iload_n 3, 1) := by decide +kernel
theorem dL_law_1683 : decode cL_law 1683 = .ok (.iconst 2, 1) := by decide +kernel
theorem dL_law_1684 : decode cL_law 1684 = .ok (.iadd, 1) := by decide +kernel
theorem dL_law_1685 : decode cL_law 1685 = .ok (.iaload, 1) := by decide +kernel
theorem dL_law_1686 : decode cL_law 1686 = .ok (.aload_n 0, 1) := by decide +kernel
theorem dL_law_1687 : decode cL_law 1687 = .ok (.iload_n 3, 1) := by decide +kernel
theorem dL_law_1688 : decode cL_law 1688 = .ok (.iconst 3, 1) := by decide +kernel
theorem dL_law_1689 : decode cL_law 1689 = .ok (.iadd, 1) := by decide +kernel
theorem dL_law_1690 : decode cL_law 1690 = .ok (.iaload, 1) := by decide +kernel
theorem dL_law_1691 : decode cL_law 1691 = .ok (.invokevirtual 206, 3) := by decide +kernel
theorem dL_law_1694 : decode cL_law 1694 = .ok (.if_icmp .eq 239, 3) := by decide +kernel
theorem lawc_46 {X : xCX} {b L : Nat} {xs : Nat → Int32} {i : Int32} {M : xMem} (C : xCk X cL_law RL 16) (hS : xSc X b L xs) (h5 : ∀ j, j < 6 → vp_in (i + nI j) L) (hT : TOP M) (kk : ∀ M', TOP M' → WW X 1933 [some (.ref b), some (vr X.1 0), some (vr X.1 146), some (.int i)] [] M') : WW X 1656 [some (.ref b), some (vr X.1 0), some (vr X.1 146), some (.int i)] [] M := by
  obtain ⟨v, M1, M2, f1, f2, T2⟩ := (show STEP (fX10_shirts 0 (xs (i + nI 1).toNatClampNeg) (xs (i + nI 2).toNatClampNeg) (xs (i + nI 3).toNatClampNeg)) (fX11_shirts 146 (xs (i + nI 1).toNatClampNeg) (xs (i + nI 2).toNatClampNeg) (xs (i + nI 3).toNatClampNeg)) from s_shirts) M hT
  refine r_aload_n (pc := 1656) C dL_law_1656 rfl rfl ?_
  refine r_xld_n (pc := 1657) C dL_law_1657 rfl rfl rfl ?_
  refine r_iload_n (pc := 1658) C dL_law_1658 rfl rfl ?_
  refine r_iconst (pc := 1659) (v := nI 1) C dL_law_1659 (by decide) ?_
  refine r_iadd (pc := 1660) C dL_law_1660 ?_
  refine r_scld (pc := 1661) C hS (h5 1 (by decide)) dL_law_1661 ?_
  refine r_xld_n (pc := 1662) C dL_law_1662 rfl rfl rfl ?_
  refine r_iload_n (pc := 1663) C dL_law_1663 rfl rfl ?_
  refine r_iconst (pc := 1664) (v := nI 2) C dL_law_1664 (by decide) ?_
  refine r_iadd (pc := 1665) C dL_law_1665 ?_
  refine r_scld (pc := 1666) C hS (h5 2 (by decide)) dL_law_1666 ?_
  refine r_xld_n (pc := 1667) C dL_law_1667 rfl rfl rfl ?_
  refine r_iload_n (pc := 1668) C dL_law_1668 rfl rfl ?_
  refine r_iconst (pc := 1669) (v := nI 3) C dL_law_1669 (by decide) ?_
  refine r_iadd (pc := 1670) C dL_law_1670 ?_
  refine r_scld (pc := 1671) C hS (h5 3 (by decide)) dL_law_1671 ?_
  refine r_vI3 (pc := 1672) (o := fX10_shirts 0 (xs (i + nI 1).toNatClampNeg) (xs (i + nI 2).toNatClampNeg) (xs (i + nI 3).toNatClampNeg) M) (F := fun r M' => some (r, M')) (z := (v, M1)) C (fun r M' e => zX10_shirts X.1 0 rfl (xs (i + nI 1).toNatClampNeg) (xs (i + nI 2).toNatClampNeg) (xs (i + nI 3).toNatClampNeg) M r M' e) rfl (by decide) rfl mX10_shirts lL_203 (by decide) (Nat.le_of_ble_eq_true rfl) dL_law_1672 (by rw [f1]; rfl) (fun r M' e => ?_)
  cases e
  refine r_aload_n (pc := 1675) C dL_law_1675 rfl rfl ?_
  refine r_xld_n (pc := 1676) C dL_law_1676 rfl rfl rfl ?_
  refine r_iload_n (pc := 1677) C dL_law_1677 rfl rfl ?_
  refine r_iconst (pc := 1678) (v := nI 1) C dL_law_1678 (by decide) ?_
  refine r_iadd (pc := 1679) C dL_law_1679 ?_
  refine r_scld (pc := 1680) C hS (h5 1 (by decide)) dL_law_1680 ?_
  refine r_xld_n (pc := 1681) C dL_law_1681 rfl rfl rfl ?_
  refine r_iload_n (pc := 1682) C dL_law_1682 rfl rfl ?_
  refine r_iconst (pc := 1683) (v := nI 2) C dL_law_1683 (by decide) ?_
  refine r_iadd (pc := 1684) C dL_law_1684 ?_
  refine r_scld (pc := 1685) C hS (h5 2 (by decide)) dL_law_1685 ?_
  refine r_xld_n (pc := 1686) C dL_law_1686 rfl rfl rfl ?_
  refine r_iload_n (pc := 1687) C dL_law_1687 rfl rfl ?_
  refine r_iconst (pc := 1688) (v := nI 3) C dL_law_1688 (by decide) ?_
  refine r_iadd (pc := 1689) C dL_law_1689 ?_
  refine r_scld (pc := 1690) C hS (h5 3 (by decide)) dL_law_1690 ?_
  refine r_vI3 (pc := 1691) (o := fX11_shirts 146 (xs (i + nI 1).toNatClampNeg) (xs (i + nI 2).toNatClampNeg) (xs (i + nI 3).toNatClampNeg) M1) (F := fun r M' => some (r, M')) (z := (v, M2)) C (fun r M' e => zX11_shirts X.1 146 rfl (xs (i + nI 1).toNatClampNeg) (xs (i + nI 2).toNatClampNeg) (xs (i + nI 3).toNatClampNeg) M1 r M' e) rfl (by decide) rfl mX11_shirts lL_206 (by decide) (Nat.le_of_ble_eq_true rfl) dL_law_1691 (by rw [f2]; rfl) (fun r M' e => ?_)
  cases e
  exact r_icmp_eq (pc := 1694) (tgt := 1933) (A := some ()) (B := none) (r := ()) C dL_law_1694 (by decide) (if_pos rfl) (fun _ _ => kk M2 T2) (fun _ h => absurd h (by simp))
theorem dL_law_1699 : decode cL_law 1699 = .ok (.aload_n 1, 1) := by decide +kernel
theorem dL_law_1700 : decode cL_law 1700 = .ok (.aload_n 0, 1) := by decide +kernel
theorem dL_law_1701 : decode cL_law 1701 = .ok (.iload_n 3, 1) := by decide +kernel
theorem dL_law_1702 : decode cL_law 1702 = .ok (.iconst 1, 1) := by decide +kernel
theorem dL_law_1703 : decode cL_law 1703 = .ok (.iadd, 1) := by decide +kernel
theorem dL_law_1704 : decode cL_law 1704 = .ok (.iaload, 1) := by decide +kernel
theorem dL_law_1705 : decode cL_law 1705 = .ok (.aload_n 0, 1) := by decide +kernel
theorem dL_law_1706 : decode cL_law 1706 = .ok (.iload_n 3, 1) := by decide +kernel
theorem dL_law_1707 : decode cL_law 1707 = .ok (.iconst 2, 1) := by decide +kernel
theorem dL_law_1708 : decode cL_law 1708 = .ok (.iadd, 1) := by decide +kernel
theorem dL_law_1709 : decode cL_law 1709 = .ok (.iaload, 1) := by decide +kernel
theorem dL_law_1710 : decode cL_law 1710 = .ok (.invokevirtual 207, 3) := by decide +kernel
theorem dL_law_1713 : decode cL_law 1713 = .ok (.aload_n 2, 1) := by decide +kernel
theorem dL_law_1714 : decode cL_law 1714 = .ok (.aload_n 0, 1) := by decide +kernel
theorem dL_law_1715 : decode cL_law 1715 = .ok (.iload_n 3, 1) := by decide +kernel
theorem dL_law_1716 : decode cL_law 1716 = .ok (.iconst 1, 1) := by decide +kernel
theorem dL_law_1717 : decode cL_law 1717 = .ok (.iadd, 1) := by decide +kernel
theorem dL_law_1718 : decode cL_law 1718 = .ok (.iaload, 1) := by decide +kernel
theorem dL_law_1719 : decode cL_law 1719 = .ok (.aload_n 0, 1) := by decide +kernel
theorem dL_law_1720 : decode cL_law 1720 = .ok (.iload_n 3, 1) := by decide +kernel
theorem dL_law_1721 : decode cL_law 1721 = .ok (.iconst 2, 1) := by decide +kernel
theorem dL_law_1722 : decode cL_law 1722 = .ok (.iadd, 1) := by decide +kernel
theorem dL_law_1723 : decode cL_law 1723 = .ok (.iaload, 1) := by decide +kernel
theorem dL_law_1724 : decode cL_law 1724 = .ok (.invokevirtual 210, 3) := by decide +kernel
theorem dL_law_1727 : decode cL_law 1727 = .ok (.if_icmp .eq 206, 3) := by decide +kernel
theorem lawc_47 {X : xCX} {b L : Nat} {xs : Nat → Int32} {i : Int32} {M : xMem} (C : xCk X cL_law RL 16) (hS : xSc X b L xs) (h5 : ∀ j, j < 6 → vp_in (i + nI j) L) (hT : TOP M) (kk : ∀ M', TOP M' → WW X 1933 [some (.ref b), some (vr X.1 0), some (vr X.1 146), some (.int i)] [] M') : WW X 1699 [some (.ref b), some (vr X.1 0), some (vr X.1 146), some (.int i)] [] M := by
  obtain ⟨v, M1, M2, f1, f2, T2⟩ := (show STEP (fX10_allOut 0 (xs (i + nI 1).toNatClampNeg) (xs (i + nI 2).toNatClampNeg)) (fX11_allOut 146 (xs (i + nI 1).toNatClampNeg) (xs (i + nI 2).toNatClampNeg)) from s_allOut) M hT
  refine r_aload_n (pc := 1699) C dL_law_1699 rfl rfl ?_
  refine r_xld_n (pc := 1700) C dL_law_1700 rfl rfl rfl ?_
  refine r_iload_n (pc := 1701) C dL_law_1701 rfl rfl ?_
  refine r_iconst (pc := 1702) (v := nI 1) C dL_law_1702 (by decide) ?_
  refine r_iadd (pc := 1703) C dL_law_1703 ?_
  refine r_scld (pc := 1704) C hS (h5 1 (by decide)) dL_law_1704 ?_
  refine r_xld_n (pc := 1705) C dL_law_1705 rfl rfl rfl ?_
  refine r_iload_n (pc := 1706) C dL_law_1706 rfl rfl ?_
  refine r_iconst (pc := 1707) (v := nI 2) C dL_law_1707 (by decide) ?_
  refine r_iadd (pc := 1708) C dL_law_1708 ?_
  refine r_scld (pc := 1709) C hS (h5 2 (by decide)) dL_law_1709 ?_
  refine r_vI2 (pc := 1710) (o := fX10_allOut 0 (xs (i + nI 1).toNatClampNeg) (xs (i + nI 2).toNatClampNeg) M) (F := fun r M' => some (r, M')) (z := (v, M1)) C (fun r M' e => zX10_allOut X.1 0 rfl (xs (i + nI 1).toNatClampNeg) (xs (i + nI 2).toNatClampNeg) M r M' e) rfl (by decide) rfl mX10_allOut lL_207 (by decide) (Nat.le_of_ble_eq_true rfl) dL_law_1710 (by rw [f1]; rfl) (fun r M' e => ?_)
  cases e
  refine r_aload_n (pc := 1713) C dL_law_1713 rfl rfl ?_
  refine r_xld_n (pc := 1714) C dL_law_1714 rfl rfl rfl ?_
  refine r_iload_n (pc := 1715) C dL_law_1715 rfl rfl ?_
  refine r_iconst (pc := 1716) (v := nI 1) C dL_law_1716 (by decide) ?_
  refine r_iadd (pc := 1717) C dL_law_1717 ?_
  refine r_scld (pc := 1718) C hS (h5 1 (by decide)) dL_law_1718 ?_
  refine r_xld_n (pc := 1719) C dL_law_1719 rfl rfl rfl ?_
  refine r_iload_n (pc := 1720) C dL_law_1720 rfl rfl ?_
  refine r_iconst (pc := 1721) (v := nI 2) C dL_law_1721 (by decide) ?_
  refine r_iadd (pc := 1722) C dL_law_1722 ?_
  refine r_scld (pc := 1723) C hS (h5 2 (by decide)) dL_law_1723 ?_
  refine r_vI2 (pc := 1724) (o := fX11_allOut 146 (xs (i + nI 1).toNatClampNeg) (xs (i + nI 2).toNatClampNeg) M1) (F := fun r M' => some (r, M')) (z := (v, M2)) C (fun r M' e => zX11_allOut X.1 146 rfl (xs (i + nI 1).toNatClampNeg) (xs (i + nI 2).toNatClampNeg) M1 r M' e) rfl (by decide) rfl mX11_allOut lL_210 (by decide) (Nat.le_of_ble_eq_true rfl) dL_law_1724 (by rw [f2]; rfl) (fun r M' e => ?_)
  cases e
  exact r_icmp_eq (pc := 1727) (tgt := 1933) (A := some ()) (B := none) (r := ()) C dL_law_1727 (by decide) (if_pos rfl) (fun _ _ => kk M2 T2) (fun _ h => absurd h (by simp))
theorem dL_law_1732 : decode cL_law 1732 = .ok (.aload_n 1, 1) := by decide +kernel
theorem dL_law_1733 : decode cL_law 1733 = .ok (.aload_n 0, 1) := by decide +kernel
theorem dL_law_1734 : decode cL_law 1734 = .ok (.iload_n 3, 1) := by decide +kernel
theorem dL_law_1735 : decode cL_law 1735 = .ok (.iconst 1, 1) := by decide +kernel
theorem dL_law_1736 : decode cL_law 1736 = .ok (.iadd, 1) := by decide +kernel
theorem dL_law_1737 : decode cL_law 1737 = .ok (.iaload, 1) := by decide +kernel
theorem dL_law_1738 : decode cL_law 1738 = .ok (.aload_n 0, 1) := by decide +kernel
theorem dL_law_1739 : decode cL_law 1739 = .ok (.iload_n 3, 1) := by decide +kernel
theorem dL_law_1740 : decode cL_law 1740 = .ok (.iconst 2, 1) := by decide +kernel
theorem dL_law_1741 : decode cL_law 1741 = .ok (.iadd, 1) := by decide +kernel
theorem dL_law_1742 : decode cL_law 1742 = .ok (.iaload, 1) := by decide +kernel
theorem dL_law_1743 : decode cL_law 1743 = .ok (.invokevirtual 211, 3) := by decide +kernel
theorem dL_law_1746 : decode cL_law 1746 = .ok (.aload_n 2, 1) := by decide +kernel
theorem dL_law_1747 : decode cL_law 1747 = .ok (.aload_n 0, 1) := by decide +kernel
theorem dL_law_1748 : decode cL_law 1748 = .ok (.iload_n 3, 1) := by decide +kernel
theorem dL_law_1749 : decode cL_law 1749 = .ok (.iconst 1, 1) := by decide +kernel
theorem dL_law_1750 : decode cL_law 1750 = .ok (.iadd, 1) := by decide +kernel
theorem dL_law_1751 : decode cL_law 1751 = .ok (.iaload, 1) := by decide +kernel
theorem dL_law_1752 : decode cL_law 1752 = .ok (.aload_n 0, 1) := by decide +kernel
theorem dL_law_1753 : decode cL_law 1753 = .ok (.iload_n 3, 1) := by decide +kernel
theorem dL_law_1754 : decode cL_law 1754 = .ok (.iconst 2, 1) := by decide +kernel
theorem dL_law_1755 : decode cL_law 1755 = .ok (.iadd, 1) := by decide +kernel
theorem dL_law_1756 : decode cL_law 1756 = .ok (.iaload, 1) := by decide +kernel
theorem dL_law_1757 : decode cL_law 1757 = .ok (.invokevirtual 214, 3) := by decide +kernel
theorem dL_law_1760 : decode cL_law 1760 = .ok (.if_icmp .eq 173, 3) := by decide +kernel
theorem lawc_48 {X : xCX} {b L : Nat} {xs : Nat → Int32} {i : Int32} {M : xMem} (C : xCk X cL_law RL 16) (hS : xSc X b L xs) (h5 : ∀ j, j < 6 → vp_in (i + nI j) L) (hT : TOP M) (kk : ∀ M', TOP M' → WW X 1933 [some (.ref b), some (vr X.1 0), some (vr X.1 146), some (.int i)] [] M') : WW X 1732 [some (.ref b), some (vr X.1 0), some (vr X.1 146), some (.int i)] [] M := by
  obtain ⟨v, M1, M2, f1, f2, T2⟩ := (show STEP (fX10_share 0 (xs (i + nI 1).toNatClampNeg) (xs (i + nI 2).toNatClampNeg)) (fX11_share 146 (xs (i + nI 1).toNatClampNeg) (xs (i + nI 2).toNatClampNeg)) from s_share) M hT
  refine r_aload_n (pc := 1732) C dL_law_1732 rfl rfl ?_
  refine r_xld_n (pc := 1733) C dL_law_1733 rfl rfl rfl ?_
  refine r_iload_n (pc := 1734) C dL_law_1734 rfl rfl ?_
  refine r_iconst (pc := 1735) (v := nI 1) C dL_law_1735 (by decide) ?_
  refine r_iadd (pc := 1736) C dL_law_1736 ?_
  refine r_scld (pc := 1737) C hS (h5 1 (by decide)) dL_law_1737 ?_
  refine r_xld_n (pc := 1738) C dL_law_1738 rfl rfl rfl ?_
  refine r_iload_n (pc := 1739) C dL_law_1739 rfl rfl ?_
  refine r_iconst (pc := 1740) (v := nI 2) C dL_law_1740 (by decide) ?_
  refine r_iadd (pc := 1741) C dL_law_1741 ?_
  refine r_scld (pc := 1742) C hS (h5 2 (by decide)) dL_law_1742 ?_
  refine r_vI2 (pc := 1743) (o := fX10_share 0 (xs (i + nI 1).toNatClampNeg) (xs (i + nI 2).toNatClampNeg) M) (F := fun r M' => some (r, M')) (z := (v, M1)) C (fun r M' e => zX10_share X.1 0 rfl (xs (i + nI 1).toNatClampNeg) (xs (i + nI 2).toNatClampNeg) M r M' e) rfl (by decide) rfl mX10_share lL_211 (by decide) (Nat.le_of_ble_eq_true rfl) dL_law_1743 (by rw [f1]; rfl) (fun r M' e => ?_)
  cases e
  refine r_aload_n (pc := 1746) C dL_law_1746 rfl rfl ?_
  refine r_xld_n (pc := 1747) C dL_law_1747 rfl rfl rfl ?_
  refine r_iload_n (pc := 1748) C dL_law_1748 rfl rfl ?_
  refine r_iconst (pc := 1749) (v := nI 1) C dL_law_1749 (by decide) ?_
  refine r_iadd (pc := 1750) C dL_law_1750 ?_
  refine r_scld (pc := 1751) C hS (h5 1 (by decide)) dL_law_1751 ?_
  refine r_xld_n (pc := 1752) C dL_law_1752 rfl rfl rfl ?_
  refine r_iload_n (pc := 1753) C dL_law_1753 rfl rfl ?_
  refine r_iconst (pc := 1754) (v := nI 2) C dL_law_1754 (by decide) ?_
  refine r_iadd (pc := 1755) C dL_law_1755 ?_
  refine r_scld (pc := 1756) C hS (h5 2 (by decide)) dL_law_1756 ?_
  refine r_vI2 (pc := 1757) (o := fX11_share 146 (xs (i + nI 1).toNatClampNeg) (xs (i + nI 2).toNatClampNeg) M1) (F := fun r M' => some (r, M')) (z := (v, M2)) C (fun r M' e => zX11_share X.1 146 rfl (xs (i + nI 1).toNatClampNeg) (xs (i + nI 2).toNatClampNeg) M1 r M' e) rfl (by decide) rfl mX11_share lL_214 (by decide) (Nat.le_of_ble_eq_true rfl) dL_law_1757 (by rw [f2]; rfl) (fun r M' e => ?_)
  cases e
  exact r_icmp_eq (pc := 1760) (tgt := 1933) (A := some ()) (B := none) (r := ()) C dL_law_1760 (by decide) (if_pos rfl) (fun _ _ => kk M2 T2) (fun _ h => absurd h (by simp))
theorem dL_law_1765 : decode cL_law 1765 = .ok (.aload_n 1, 1) := by decide +kernel
theorem dL_law_1766 : decode cL_law 1766 = .ok (.invokevirtual 215, 3) := by decide +kernel
theorem dL_law_1769 : decode cL_law 1769 = .ok (.aload_n 2, 1) := by decide +kernel
theorem dL_law_1770 : decode cL_law 1770 = .ok (.invokevirtual 218, 3) := by decide +kernel
theorem dL_law_1773 : decode cL_law 1773 = .ok (.if_icmp .eq 160, 3) := by decide +kernel
theorem lawc_49 {X : xCX} {b L : Nat} {xs : Nat → Int32} {i : Int32} {M : xMem} (C : xCk X cL_law RL 16) (hS : xSc X b L xs) (h5 : ∀ j, j < 6 → vp_in (i + nI j) L) (hT : TOP M) (kk : ∀ M', TOP M' → WW X 1933 [some (.ref b), some (vr X.1 0), some (vr X.1 146), some (.int i)] [] M') : WW X 1765 [some (.ref b), some (vr X.1 0), some (vr X.1 146), some (.int i)] [] M := by
  obtain ⟨v, M1, M2, f1, f2, T2⟩ := (show STEP (fX10_find 0 ) (fX11_find 146 ) from s_find) M hT
  refine r_aload_n (pc := 1765) C dL_law_1765 rfl rfl ?_
  refine r_vI0 (pc := 1766) (o := fX10_find 0  M) (F := fun r M' => some (r, M')) (z := (v, M1)) C (fun r M' e => zX10_find X.1 0 rfl  M r M' e) rfl (by decide) rfl mX10_find lL_215 (by decide) (Nat.le_of_ble_eq_true rfl) dL_law_1766 (by rw [f1]; rfl) (fun r M' e => ?_)
  cases e
  refine r_aload_n (pc := 1769) C dL_law_1769 rfl rfl ?_
  refine r_vI0 (pc := 1770) (o := fX11_find 146  M1) (F := fun r M' => some (r, M')) (z := (v, M2)) C (fun r M' e => zX11_find X.1 146 rfl  M1 r M' e) rfl (by decide) rfl mX11_find lL_218 (by decide) (Nat.le_of_ble_eq_true rfl) dL_law_1770 (by rw [f2]; rfl) (fun r M' e => ?_)
  cases e
  exact r_icmp_eq (pc := 1773) (tgt := 1933) (A := some ()) (B := none) (r := ()) C dL_law_1773 (by decide) (if_pos rfl) (fun _ _ => kk M2 T2) (fun _ h => absurd h (by simp))
theorem dL_law_1778 : decode cL_law 1778 = .ok (.aload_n 1, 1) := by decide +kernel
theorem dL_law_1779 : decode cL_law 1779 = .ok (.aload_n 0, 1) := by decide +kernel
theorem dL_law_1780 : decode cL_law 1780 = .ok (.iload_n 3, 1) := by decide +kernel
theorem dL_law_1781 : decode cL_law 1781 = .ok (.iconst 1, 1) := by decide +kernel
theorem dL_law_1782 : decode cL_law 1782 = .ok (.iadd, 1) := by decide +kernel
theorem dL_law_1783 : decode cL_law 1783 = .ok (.iaload, 1) := by decide +kernel
theorem dL_law_1784 : decode cL_law 1784 = .ok (.aload_n 0, 1) := by decide +kernel
theorem dL_law_1785 : decode cL_law 1785 = .ok (.iload_n 3, 1) := by decide +kernel
theorem dL_law_1786 : decode cL_law 1786 = .ok (.iconst 2, 1) := by decide +kernel
theorem dL_law_1787 : decode cL_law 1787 = .ok (.iadd, 1) := by decide +kernel
theorem dL_law_1788 : decode cL_law 1788 = .ok (.iaload, 1) := by decide +kernel
theorem dL_law_1789 : decode cL_law 1789 = .ok (.invokevirtual 219, 3) := by decide +kernel
theorem dL_law_1792 : decode cL_law 1792 = .ok (.aload_n 2, 1) := by decide +kernel
theorem dL_law_1793 : decode cL_law 1793 = .ok (.aload_n 0, 1) := by decide +kernel
theorem dL_law_1794 : decode cL_law 1794 = .ok (.iload_n 3, 1) := by decide +kernel
theorem dL_law_1795 : decode cL_law 1795 = .ok (.iconst 1, 1) := by decide +kernel
theorem dL_law_1796 : decode cL_law 1796 = .ok (.iadd, 1) := by decide +kernel
theorem dL_law_1797 : decode cL_law 1797 = .ok (.iaload, 1) := by decide +kernel
theorem dL_law_1798 : decode cL_law 1798 = .ok (.aload_n 0, 1) := by decide +kernel
theorem dL_law_1799 : decode cL_law 1799 = .ok (.iload_n 3, 1) := by decide +kernel
theorem dL_law_1800 : decode cL_law 1800 = .ok (.iconst 2, 1) := by decide +kernel
theorem dL_law_1801 : decode cL_law 1801 = .ok (.iadd, 1) := by decide +kernel
theorem dL_law_1802 : decode cL_law 1802 = .ok (.iaload, 1) := by decide +kernel
theorem dL_law_1803 : decode cL_law 1803 = .ok (.invokevirtual 222, 3) := by decide +kernel
theorem dL_law_1806 : decode cL_law 1806 = .ok (.if_icmp .eq 127, 3) := by decide +kernel
theorem lawc_50 {X : xCX} {b L : Nat} {xs : Nat → Int32} {i : Int32} {M : xMem} (C : xCk X cL_law RL 16) (hS : xSc X b L xs) (h5 : ∀ j, j < 6 → vp_in (i + nI j) L) (hT : TOP M) (kk : ∀ M', TOP M' → WW X 1933 [some (.ref b), some (vr X.1 0), some (vr X.1 146), some (.int i)] [] M') : WW X 1778 [some (.ref b), some (vr X.1 0), some (vr X.1 146), some (.int i)] [] M := by
  obtain ⟨v, M1, M2, f1, f2, T2⟩ := (show STEP (fX10_streak 0 (xs (i + nI 1).toNatClampNeg) (xs (i + nI 2).toNatClampNeg)) (fX11_streak 146 (xs (i + nI 1).toNatClampNeg) (xs (i + nI 2).toNatClampNeg)) from s_streak) M hT
  refine r_aload_n (pc := 1778) C dL_law_1778 rfl rfl ?_
  refine r_xld_n (pc := 1779) C dL_law_1779 rfl rfl rfl ?_
  refine r_iload_n (pc := 1780) C dL_law_1780 rfl rfl ?_
  refine r_iconst (pc := 1781) (v := nI 1) C dL_law_1781 (by decide) ?_
  refine r_iadd (pc := 1782) C dL_law_1782 ?_
  refine r_scld (pc := 1783) C hS (h5 1 (by decide)) dL_law_1783 ?_
  refine r_xld_n (pc := 1784) C dL_law_1784 rfl rfl rfl ?_
  refine r_iload_n (pc := 1785) C dL_law_1785 rfl rfl ?_
  refine r_iconst (pc := 1786) (v := nI 2) C dL_law_1786 (by decide) ?_
  refine r_iadd (pc := 1787) C dL_law_1787 ?_
  refine r_scld (pc := 1788) C hS (h5 2 (by decide)) dL_law_1788 ?_
  refine r_vI2 (pc := 1789) (o := fX10_streak 0 (xs (i + nI 1).toNatClampNeg) (xs (i + nI 2).toNatClampNeg) M) (F := fun r M' => some (r, M')) (z := (v, M1)) C (fun r M' e => zX10_streak X.1 0 rfl (xs (i + nI 1).toNatClampNeg) (xs (i + nI 2).toNatClampNeg) M r M' e) rfl (by decide) rfl mX10_streak lL_219 (by decide) (Nat.le_of_ble_eq_true rfl) dL_law_1789 (by rw [f1]; rfl) (fun r M' e => ?_)
  cases e
  refine r_aload_n (pc := 1792) C dL_law_1792 rfl rfl ?_
  refine r_xld_n (pc := 1793) C dL_law_1793 rfl rfl rfl ?_
  refine r_iload_n (pc := 1794) C dL_law_1794 rfl rfl ?_
  refine r_iconst (pc := 1795) (v := nI 1) C dL_law_1795 (by decide) ?_
  refine r_iadd (pc := 1796) C dL_law_1796 ?_
  refine r_scld (pc := 1797) C hS (h5 1 (by decide)) dL_law_1797 ?_
  refine r_xld_n (pc := 1798) C dL_law_1798 rfl rfl rfl ?_
  refine r_iload_n (pc := 1799) C dL_law_1799 rfl rfl ?_
  refine r_iconst (pc := 1800) (v := nI 2) C dL_law_1800 (by decide) ?_
  refine r_iadd (pc := 1801) C dL_law_1801 ?_
  refine r_scld (pc := 1802) C hS (h5 2 (by decide)) dL_law_1802 ?_
  refine r_vI2 (pc := 1803) (o := fX11_streak 146 (xs (i + nI 1).toNatClampNeg) (xs (i + nI 2).toNatClampNeg) M1) (F := fun r M' => some (r, M')) (z := (v, M2)) C (fun r M' e => zX11_streak X.1 146 rfl (xs (i + nI 1).toNatClampNeg) (xs (i + nI 2).toNatClampNeg) M1 r M' e) rfl (by decide) rfl mX11_streak lL_222 (by decide) (Nat.le_of_ble_eq_true rfl) dL_law_1803 (by rw [f2]; rfl) (fun r M' e => ?_)
  cases e
  exact r_icmp_eq (pc := 1806) (tgt := 1933) (A := some ()) (B := none) (r := ()) C dL_law_1806 (by decide) (if_pos rfl) (fun _ _ => kk M2 T2) (fun _ h => absurd h (by simp))
theorem dL_law_1811 : decode cL_law 1811 = .ok (.aload_n 1, 1) := by decide +kernel
theorem dL_law_1812 : decode cL_law 1812 = .ok (.aload_n 0, 1) := by decide +kernel
theorem dL_law_1813 : decode cL_law 1813 = .ok (.iload_n 3, 1) := by decide +kernel
theorem dL_law_1814 : decode cL_law 1814 = .ok (.iconst 1, 1) := by decide +kernel
theorem dL_law_1815 : decode cL_law 1815 = .ok (.iadd, 1) := by decide +kernel
theorem dL_law_1816 : decode cL_law 1816 = .ok (.iaload, 1) := by decide +kernel
theorem dL_law_1817 : decode cL_law 1817 = .ok (.aload_n 0, 1) := by decide +kernel
theorem dL_law_1818 : decode cL_law 1818 = .ok (.iload_n 3, 1) := by decide +kernel
theorem dL_law_1819 : decode cL_law 1819 = .ok (.iconst 2, 1) := by decide +kernel
theorem dL_law_1820 : decode cL_law 1820 = .ok (.iadd, 1) := by decide +kernel
theorem dL_law_1821 : decode cL_law 1821 = .ok (.iaload, 1) := by decide +kernel
theorem dL_law_1822 : decode cL_law 1822 = .ok (.invokevirtual 223, 3) := by decide +kernel
theorem dL_law_1825 : decode cL_law 1825 = .ok (.aload_n 2, 1) := by decide +kernel
theorem dL_law_1826 : decode cL_law 1826 = .ok (.aload_n 0, 1) := by decide +kernel
theorem dL_law_1827 : decode cL_law 1827 = .ok (.iload_n 3, 1) := by decide +kernel
theorem dL_law_1828 : decode cL_law 1828 = .ok (.iconst 1, 1) := by decide +kernel
theorem dL_law_1829 : decode cL_law 1829 = .ok (.iadd, 1) := by decide +kernel
theorem dL_law_1830 : decode cL_law 1830 = .ok (.iaload, 1) := by decide +kernel
theorem dL_law_1831 : decode cL_law 1831 = .ok (.aload_n 0, 1) := by decide +kernel
theorem dL_law_1832 : decode cL_law 1832 = .ok (.iload_n 3, 1) := by decide +kernel
theorem dL_law_1833 : decode cL_law 1833 = .ok (.iconst 2, 1) := by decide +kernel
theorem dL_law_1834 : decode cL_law 1834 = .ok (.iadd, 1) := by decide +kernel
theorem dL_law_1835 : decode cL_law 1835 = .ok (.iaload, 1) := by decide +kernel
theorem dL_law_1836 : decode cL_law 1836 = .ok (.invokevirtual 226, 3) := by decide +kernel
theorem dL_law_1839 : decode cL_law 1839 = .ok (.if_icmp .eq 94, 3) := by decide +kernel
theorem lawc_51 {X : xCX} {b L : Nat} {xs : Nat → Int32} {i : Int32} {M : xMem} (C : xCk X cL_law RL 16) (hS : xSc X b L xs) (h5 : ∀ j, j < 6 → vp_in (i + nI j) L) (hT : TOP M) (kk : ∀ M', TOP M' → WW X 1933 [some (.ref b), some (vr X.1 0), some (vr X.1 146), some (.int i)] [] M') : WW X 1811 [some (.ref b), some (vr X.1 0), some (vr X.1 146), some (.int i)] [] M := by
  obtain ⟨v, M1, M2, f1, f2, T2⟩ := (show STEP (fX10_last 0 (xs (i + nI 1).toNatClampNeg) (xs (i + nI 2).toNatClampNeg)) (fX11_last 146 (xs (i + nI 1).toNatClampNeg) (xs (i + nI 2).toNatClampNeg)) from s_last) M hT
  refine r_aload_n (pc := 1811) C dL_law_1811 rfl rfl ?_
  refine r_xld_n (pc := 1812) C dL_law_1812 rfl rfl rfl ?_
  refine r_iload_n (pc := 1813) C dL_law_1813 rfl rfl ?_
  refine r_iconst (pc := 1814) (v := nI 1) C dL_law_1814 (by decide) ?_
  refine r_iadd (pc := 1815) C dL_law_1815 ?_
  refine r_scld (pc := 1816) C hS (h5 1 (by decide)) dL_law_1816 ?_
  refine r_xld_n (pc := 1817) C dL_law_1817 rfl rfl rfl ?_
  refine r_iload_n (pc := 1818) C dL_law_1818 rfl rfl ?_
  refine r_iconst (pc := 1819) (v := nI 2) C dL_law_1819 (by decide) ?_
  refine r_iadd (pc := 1820) C dL_law_1820 ?_
  refine r_scld (pc := 1821) C hS (h5 2 (by decide)) dL_law_1821 ?_
  refine r_vI2 (pc := 1822) (o := fX10_last 0 (xs (i + nI 1).toNatClampNeg) (xs (i + nI 2).toNatClampNeg) M) (F := fun r M' => some (r, M')) (z := (v, M1)) C (fun r M' e => zX10_last X.1 0 rfl (xs (i + nI 1).toNatClampNeg) (xs (i + nI 2).toNatClampNeg) M r M' e) rfl (by decide) rfl mX10_last lL_223 (by decide) (Nat.le_of_ble_eq_true rfl) dL_law_1822 (by rw [f1]; rfl) (fun r M' e => ?_)
  cases e
  refine r_aload_n (pc := 1825) C dL_law_1825 rfl rfl ?_
  refine r_xld_n (pc := 1826) C dL_law_1826 rfl rfl rfl ?_
  refine r_iload_n (pc := 1827) C dL_law_1827 rfl rfl ?_
  refine r_iconst (pc := 1828) (v := nI 1) C dL_law_1828 (by decide) ?_
  refine r_iadd (pc := 1829) C dL_law_1829 ?_
  refine r_scld (pc := 1830) C hS (h5 1 (by decide)) dL_law_1830 ?_
  refine r_xld_n (pc := 1831) C dL_law_1831 rfl rfl rfl ?_
  refine r_iload_n (pc := 1832) C dL_law_1832 rfl rfl ?_
  refine r_iconst (pc := 1833) (v := nI 2) C dL_law_1833 (by decide) ?_
  refine r_iadd (pc := 1834) C dL_law_1834 ?_
  refine r_scld (pc := 1835) C hS (h5 2 (by decide)) dL_law_1835 ?_
  refine r_vI2 (pc := 1836) (o := fX11_last 146 (xs (i + nI 1).toNatClampNeg) (xs (i + nI 2).toNatClampNeg) M1) (F := fun r M' => some (r, M')) (z := (v, M2)) C (fun r M' e => zX11_last X.1 146 rfl (xs (i + nI 1).toNatClampNeg) (xs (i + nI 2).toNatClampNeg) M1 r M' e) rfl (by decide) rfl mX11_last lL_226 (by decide) (Nat.le_of_ble_eq_true rfl) dL_law_1836 (by rw [f2]; rfl) (fun r M' e => ?_)
  cases e
  exact r_icmp_eq (pc := 1839) (tgt := 1933) (A := some ()) (B := none) (r := ()) C dL_law_1839 (by decide) (if_pos rfl) (fun _ _ => kk M2 T2) (fun _ h => absurd h (by simp))
theorem dL_law_1844 : decode cL_law 1844 = .ok (.aload_n 1, 1) := by decide +kernel
theorem dL_law_1845 : decode cL_law 1845 = .ok (.aload_n 0, 1) := by decide +kernel
theorem dL_law_1846 : decode cL_law 1846 = .ok (.iload_n 3, 1) := by decide +kernel
theorem dL_law_1847 : decode cL_law 1847 = .ok (.iconst 1, 1) := by decide +kernel
theorem dL_law_1848 : decode cL_law 1848 = .ok (.iadd, 1) := by decide +kernel
theorem dL_law_1849 : decode cL_law 1849 = .ok (.iaload, 1) := by decide +kernel
theorem dL_law_1850 : decode cL_law 1850 = .ok (.aload_n 0, 1) := by decide +kernel
theorem dL_law_1851 : decode cL_law 1851 = .ok (.iload_n 3, 1) := by decide +kernel
theorem dL_law_1852 : decode cL_law 1852 = .ok (.iconst 2, 1) := by decide +kernel
theorem dL_law_1853 : decode cL_law 1853 = .ok (.iadd, 1) := by decide +kernel
theorem dL_law_1854 : decode cL_law 1854 = .ok (.iaload, 1) := by decide +kernel
theorem dL_law_1855 : decode cL_law 1855 = .ok (.invokevirtual 227, 3) := by decide +kernel
theorem dL_law_1858 : decode cL_law 1858 = .ok (.aload_n 2, 1) := by decide +kernel
theorem dL_law_1859 : decode cL_law 1859 = .ok (.aload_n 0, 1) := by decide +kernel
theorem dL_law_1860 : decode cL_law 1860 = .ok (.iload_n 3, 1) := by decide +kernel
theorem dL_law_1861 : decode cL_law 1861 = .ok (.iconst 1, 1) := by decide +kernel
theorem dL_law_1862 : decode cL_law 1862 = .ok (.iadd, 1) := by decide +kernel
theorem dL_law_1863 : decode cL_law 1863 = .ok (.iaload, 1) := by decide +kernel
theorem dL_law_1864 : decode cL_law 1864 = .ok (.aload_n 0, 1) := by decide +kernel
theorem dL_law_1865 : decode cL_law 1865 = .ok (.iload_n 3, 1) := by decide +kernel
theorem dL_law_1866 : decode cL_law 1866 = .ok (.iconst 2, 1) := by decide +kernel
theorem dL_law_1867 : decode cL_law 1867 = .ok (.iadd, 1) := by decide +kernel
theorem dL_law_1868 : decode cL_law 1868 = .ok (.iaload, 1) := by decide +kernel
theorem dL_law_1869 : decode cL_law 1869 = .ok (.invokevirtual 230, 3) := by decide +kernel
theorem dL_law_1872 : decode cL_law 1872 = .ok (.if_icmp .eq 61, 3) := by decide +kernel
theorem lawc_52 {X : xCX} {b L : Nat} {xs : Nat → Int32} {i : Int32} {M : xMem} (C : xCk X cL_law RL 16) (hS : xSc X b L xs) (h5 : ∀ j, j < 6 → vp_in (i + nI j) L) (hT : TOP M) (kk : ∀ M', TOP M' → WW X 1933 [some (.ref b), some (vr X.1 0), some (vr X.1 146), some (.int i)] [] M') : WW X 1844 [some (.ref b), some (vr X.1 0), some (vr X.1 146), some (.int i)] [] M := by
  obtain ⟨v, M1, M2, f1, f2, T2⟩ := (show STEP (fX10_some 0 (xs (i + nI 1).toNatClampNeg) (xs (i + nI 2).toNatClampNeg)) (fX11_some 146 (xs (i + nI 1).toNatClampNeg) (xs (i + nI 2).toNatClampNeg)) from s_some) M hT
  refine r_aload_n (pc := 1844) C dL_law_1844 rfl rfl ?_
  refine r_xld_n (pc := 1845) C dL_law_1845 rfl rfl rfl ?_
  refine r_iload_n (pc := 1846) C dL_law_1846 rfl rfl ?_
  refine r_iconst (pc := 1847) (v := nI 1) C dL_law_1847 (by decide) ?_
  refine r_iadd (pc := 1848) C dL_law_1848 ?_
  refine r_scld (pc := 1849) C hS (h5 1 (by decide)) dL_law_1849 ?_
  refine r_xld_n (pc := 1850) C dL_law_1850 rfl rfl rfl ?_
  refine r_iload_n (pc := 1851) C dL_law_1851 rfl rfl ?_
  refine r_iconst (pc := 1852) (v := nI 2) C dL_law_1852 (by decide) ?_
  refine r_iadd (pc := 1853) C dL_law_1853 ?_
  refine r_scld (pc := 1854) C hS (h5 2 (by decide)) dL_law_1854 ?_
  refine r_vI2 (pc := 1855) (o := fX10_some 0 (xs (i + nI 1).toNatClampNeg) (xs (i + nI 2).toNatClampNeg) M) (F := fun r M' => some (r, M')) (z := (v, M1)) C (fun r M' e => zX10_some X.1 0 rfl (xs (i + nI 1).toNatClampNeg) (xs (i + nI 2).toNatClampNeg) M r M' e) rfl (by decide) rfl mX10_some lL_227 (by decide) (Nat.le_of_ble_eq_true rfl) dL_law_1855 (by rw [f1]; rfl) (fun r M' e => ?_)
  cases e
  refine r_aload_n (pc := 1858) C dL_law_1858 rfl rfl ?_
  refine r_xld_n (pc := 1859) C dL_law_1859 rfl rfl rfl ?_
  refine r_iload_n (pc := 1860) C dL_law_1860 rfl rfl ?_
  refine r_iconst (pc := 1861) (v := nI 1) C dL_law_1861 (by decide) ?_
  refine r_iadd (pc := 1862) C dL_law_1862 ?_
  refine r_scld (pc := 1863) C hS (h5 1 (by decide)) dL_law_1863 ?_
  refine r_xld_n (pc := 1864) C dL_law_1864 rfl rfl rfl ?_
  refine r_iload_n (pc := 1865) C dL_law_1865 rfl rfl ?_
  refine r_iconst (pc := 1866) (v := nI 2) C dL_law_1866 (by decide) ?_
  refine r_iadd (pc := 1867) C dL_law_1867 ?_
  refine r_scld (pc := 1868) C hS (h5 2 (by decide)) dL_law_1868 ?_
  refine r_vI2 (pc := 1869) (o := fX11_some 146 (xs (i + nI 1).toNatClampNeg) (xs (i + nI 2).toNatClampNeg) M1) (F := fun r M' => some (r, M')) (z := (v, M2)) C (fun r M' e => zX11_some X.1 146 rfl (xs (i + nI 1).toNatClampNeg) (xs (i + nI 2).toNatClampNeg) M1 r M' e) rfl (by decide) rfl mX11_some lL_230 (by decide) (Nat.le_of_ble_eq_true rfl) dL_law_1869 (by rw [f2]; rfl) (fun r M' e => ?_)
  cases e
  exact r_icmp_eq (pc := 1872) (tgt := 1933) (A := some ()) (B := none) (r := ()) C dL_law_1872 (by decide) (if_pos rfl) (fun _ _ => kk M2 T2) (fun _ h => absurd h (by simp))
theorem dL_law_1877 : decode cL_law 1877 = .ok (.aload_n 1, 1) := by decide +kernel
theorem dL_law_1878 : decode cL_law 1878 = .ok (.aload_n 0, 1) := by decide +kernel
theorem dL_law_1879 : decode cL_law 1879 = .ok (.iload_n 3, 1) := by decide +kernel
theorem dL_law_1880 : decode cL_law 1880 = .ok (.iconst 1, 1) := by decide +kernel
theorem dL_law_1881 : decode cL_law 1881 = .ok (.iadd, 1) := by decide +kernel
theorem dL_law_1882 : decode cL_law 1882 = .ok (.iaload, 1) := by decide +kernel
theorem dL_law_1883 : decode cL_law 1883 = .ok (.aload_n 0, 1) := by decide +kernel
theorem dL_law_1884 : decode cL_law 1884 = .ok (.iload_n 3, 1) := by decide +kernel
theorem dL_law_1885 : decode cL_law 1885 = .ok (.iconst 2, 1) := by decide +kernel
theorem dL_law_1886 : decode cL_law 1886 = .ok (.iadd, 1) := by decide +kernel
theorem dL_law_1887 : decode cL_law 1887 = .ok (.iaload, 1) := by decide +kernel
theorem dL_law_1888 : decode cL_law 1888 = .ok (.invokevirtual 231, 3) := by decide +kernel
theorem dL_law_1891 : decode cL_law 1891 = .ok (.aload_n 2, 1) := by decide +kernel
theorem dL_law_1892 : decode cL_law 1892 = .ok (.aload_n 0, 1) := by decide +kernel
theorem dL_law_1893 : decode cL_law 1893 = .ok (.iload_n 3, 1) := by decide +kernel
theorem dL_law_1894 : decode cL_law 1894 = .ok (.iconst 1, 1) := by decide +kernel
theorem dL_law_1895 : decode cL_law 1895 = .ok (.iadd, 1) := by decide +kernel
theorem dL_law_1896 : decode cL_law 1896 = .ok (.iaload, 1) := by decide +kernel
theorem dL_law_1897 : decode cL_law 1897 = .ok (.aload_n 0, 1) := by decide +kernel
theorem dL_law_1898 : decode cL_law 1898 = .ok (.iload_n 3, 1) := by decide +kernel
theorem dL_law_1899 : decode cL_law 1899 = .ok (.iconst 2, 1) := by decide +kernel
theorem dL_law_1900 : decode cL_law 1900 = .ok (.iadd, 1) := by decide +kernel
theorem dL_law_1901 : decode cL_law 1901 = .ok (.iaload, 1) := by decide +kernel
theorem dL_law_1902 : decode cL_law 1902 = .ok (.invokevirtual 234, 3) := by decide +kernel
theorem dL_law_1905 : decode cL_law 1905 = .ok (.if_icmp .eq 28, 3) := by decide +kernel
theorem lawc_53 {X : xCX} {b L : Nat} {xs : Nat → Int32} {i : Int32} {M : xMem} (C : xCk X cL_law RL 16) (hS : xSc X b L xs) (h5 : ∀ j, j < 6 → vp_in (i + nI j) L) (hT : TOP M) (kk : ∀ M', TOP M' → WW X 1933 [some (.ref b), some (vr X.1 0), some (vr X.1 146), some (.int i)] [] M') : WW X 1877 [some (.ref b), some (vr X.1 0), some (vr X.1 146), some (.int i)] [] M := by
  obtain ⟨v, M1, M2, f1, f2, T2⟩ := (show STEP (fX10_sum 0 (xs (i + nI 1).toNatClampNeg) (xs (i + nI 2).toNatClampNeg)) (fX11_sum 146 (xs (i + nI 1).toNatClampNeg) (xs (i + nI 2).toNatClampNeg)) from s_sum) M hT
  refine r_aload_n (pc := 1877) C dL_law_1877 rfl rfl ?_
  refine r_xld_n (pc := 1878) C dL_law_1878 rfl rfl rfl ?_
  refine r_iload_n (pc := 1879) C dL_law_1879 rfl rfl ?_
  refine r_iconst (pc := 1880) (v := nI 1) C dL_law_1880 (by decide) ?_
  refine r_iadd (pc := 1881) C dL_law_1881 ?_
  refine r_scld (pc := 1882) C hS (h5 1 (by decide)) dL_law_1882 ?_
  refine r_xld_n (pc := 1883) C dL_law_1883 rfl rfl rfl ?_
  refine r_iload_n (pc := 1884) C dL_law_1884 rfl rfl ?_
  refine r_iconst (pc := 1885) (v := nI 2) C dL_law_1885 (by decide) ?_
  refine r_iadd (pc := 1886) C dL_law_1886 ?_
  refine r_scld (pc := 1887) C hS (h5 2 (by decide)) dL_law_1887 ?_
  refine r_vI2 (pc := 1888) (o := fX10_sum 0 (xs (i + nI 1).toNatClampNeg) (xs (i + nI 2).toNatClampNeg) M) (F := fun r M' => some (r, M')) (z := (v, M1)) C (fun r M' e => zX10_sum X.1 0 rfl (xs (i + nI 1).toNatClampNeg) (xs (i + nI 2).toNatClampNeg) M r M' e) rfl (by decide) rfl mX10_sum lL_231 (by decide) (Nat.le_of_ble_eq_true rfl) dL_law_1888 (by rw [f1]; rfl) (fun r M' e => ?_)
  cases e
  refine r_aload_n (pc := 1891) C dL_law_1891 rfl rfl ?_
  refine r_xld_n (pc := 1892) C dL_law_1892 rfl rfl rfl ?_
  refine r_iload_n (pc := 1893) C dL_law_1893 rfl rfl ?_
  refine r_iconst (pc := 1894) (v := nI 1) C dL_law_1894 (by decide) ?_
  refine r_iadd (pc := 1895) C dL_law_1895 ?_
  refine r_scld (pc := 1896) C hS (h5 1 (by decide)) dL_law_1896 ?_
  refine r_xld_n (pc := 1897) C dL_law_1897 rfl rfl rfl ?_
  refine r_iload_n (pc := 1898) C dL_law_1898 rfl rfl ?_
  refine r_iconst (pc := 1899) (v := nI 2) C dL_law_1899 (by decide) ?_
  refine r_iadd (pc := 1900) C dL_law_1900 ?_
  refine r_scld (pc := 1901) C hS (h5 2 (by decide)) dL_law_1901 ?_
  refine r_vI2 (pc := 1902) (o := fX11_sum 146 (xs (i + nI 1).toNatClampNeg) (xs (i + nI 2).toNatClampNeg) M1) (F := fun r M' => some (r, M')) (z := (v, M2)) C (fun r M' e => zX11_sum X.1 146 rfl (xs (i + nI 1).toNatClampNeg) (xs (i + nI 2).toNatClampNeg) M1 r M' e) rfl (by decide) rfl mX11_sum lL_234 (by decide) (Nat.le_of_ble_eq_true rfl) dL_law_1902 (by rw [f2]; rfl) (fun r M' e => ?_)
  cases e
  exact r_icmp_eq (pc := 1905) (tgt := 1933) (A := some ()) (B := none) (r := ()) C dL_law_1905 (by decide) (if_pos rfl) (fun _ _ => kk M2 T2) (fun _ h => absurd h (by simp))
theorem dL_law_1910 : decode cL_law 1910 = .ok (.aload_n 1, 1) := by decide +kernel
theorem dL_law_1911 : decode cL_law 1911 = .ok (.aload_n 0, 1) := by decide +kernel
theorem dL_law_1912 : decode cL_law 1912 = .ok (.iload_n 3, 1) := by decide +kernel
theorem dL_law_1913 : decode cL_law 1913 = .ok (.iconst 1, 1) := by decide +kernel
theorem dL_law_1914 : decode cL_law 1914 = .ok (.iadd, 1) := by decide +kernel
theorem dL_law_1915 : decode cL_law 1915 = .ok (.iaload, 1) := by decide +kernel
theorem dL_law_1916 : decode cL_law 1916 = .ok (.invokevirtual 235, 3) := by decide +kernel
theorem dL_law_1919 : decode cL_law 1919 = .ok (.aload_n 2, 1) := by decide +kernel
theorem dL_law_1920 : decode cL_law 1920 = .ok (.aload_n 0, 1) := by decide +kernel
theorem dL_law_1921 : decode cL_law 1921 = .ok (.iload_n 3, 1) := by decide +kernel
theorem dL_law_1922 : decode cL_law 1922 = .ok (.iconst 1, 1) := by decide +kernel
theorem dL_law_1923 : decode cL_law 1923 = .ok (.iadd, 1) := by decide +kernel
theorem dL_law_1924 : decode cL_law 1924 = .ok (.iaload, 1) := by decide +kernel
theorem dL_law_1925 : decode cL_law 1925 = .ok (.invokevirtual 238, 3) := by decide +kernel
theorem dL_law_1928 : decode cL_law 1928 = .ok (.if_icmp .eq 5, 3) := by decide +kernel
theorem lawc_54 {X : xCX} {b L : Nat} {xs : Nat → Int32} {i : Int32} {M : xMem} (C : xCk X cL_law RL 16) (hS : xSc X b L xs) (h5 : ∀ j, j < 6 → vp_in (i + nI j) L) (hT : TOP M) (kk : ∀ M', TOP M' → WW X 1933 [some (.ref b), some (vr X.1 0), some (vr X.1 146), some (.int i)] [] M') : WW X 1910 [some (.ref b), some (vr X.1 0), some (vr X.1 146), some (.int i)] [] M := by
  obtain ⟨v, M1, M2, f1, f2, T2⟩ := (show STEP (fX10_lives 0 (xs (i + nI 1).toNatClampNeg)) (fX11_lives 146 (xs (i + nI 1).toNatClampNeg)) from s_lives) M hT
  refine r_aload_n (pc := 1910) C dL_law_1910 rfl rfl ?_
  refine r_xld_n (pc := 1911) C dL_law_1911 rfl rfl rfl ?_
  refine r_iload_n (pc := 1912) C dL_law_1912 rfl rfl ?_
  refine r_iconst (pc := 1913) (v := nI 1) C dL_law_1913 (by decide) ?_
  refine r_iadd (pc := 1914) C dL_law_1914 ?_
  refine r_scld (pc := 1915) C hS (h5 1 (by decide)) dL_law_1915 ?_
  refine r_vI1 (pc := 1916) (o := fX10_lives 0 (xs (i + nI 1).toNatClampNeg) M) (F := fun r M' => some (r, M')) (z := (v, M1)) C (fun r M' e => zX10_lives X.1 0 rfl (xs (i + nI 1).toNatClampNeg) M r M' e) rfl (by decide) rfl mX10_lives lL_235 (by decide) (Nat.le_of_ble_eq_true rfl) dL_law_1916 (by rw [f1]; rfl) (fun r M' e => ?_)
  cases e
  refine r_aload_n (pc := 1919) C dL_law_1919 rfl rfl ?_
  refine r_xld_n (pc := 1920) C dL_law_1920 rfl rfl rfl ?_
  refine r_iload_n (pc := 1921) C dL_law_1921 rfl rfl ?_
  refine r_iconst (pc := 1922) (v := nI 1) C dL_law_1922 (by decide) ?_
  refine r_iadd (pc := 1923) C dL_law_1923 ?_
  refine r_scld (pc := 1924) C hS (h5 1 (by decide)) dL_law_1924 ?_
  refine r_vI1 (pc := 1925) (o := fX11_lives 146 (xs (i + nI 1).toNatClampNeg) M1) (F := fun r M' => some (r, M')) (z := (v, M2)) C (fun r M' e => zX11_lives X.1 146 rfl (xs (i + nI 1).toNatClampNeg) M1 r M' e) rfl (by decide) rfl mX11_lives lL_238 (by decide) (Nat.le_of_ble_eq_true rfl) dL_law_1925 (by rw [f2]; rfl) (fun r M' e => ?_)
  cases e
  exact r_icmp_eq (pc := 1928) (tgt := 1933) (A := some ()) (B := none) (r := ()) C dL_law_1928 (by decide) (if_pos rfl) (fun _ _ => kk M2 T2) (fun _ h => absurd h (by simp))
